abbrev cV_allowed : ByteArray := prog_1_method_26_code
abbrev yV_allowed : MethodName := ⟨"DrawingVault", "allowed", "(I)Z"⟩
theorem dV_allowed_0 : decode cV_allowed 0 = .ok (.aload_n 0, 1) := by decide +kernel
theorem dV_allowed_1 : decode cV_allowed 1 = .ok (.iload_n 1, 1) := by decide +kernel
theorem dV_allowed_2 : decode cV_allowed 2 = .ok (.putfield 160, 3) := by decide +kernel
theorem dV_allowed_5 : decode cV_allowed 5 = .ok (.iload_n 1, 1) := by decide +kernel
theorem dV_allowed_6 : decode cV_allowed 6 = .ok (.ifCond .ne 7, 3) := by decide +kernel
theorem dV_allowed_9 : decode cV_allowed 9 = .ok (.iconst 1, 1) := by decide +kernel
theorem dV_allowed_10 : decode cV_allowed 10 = .ok (.goto 4, 3) := by decide +kernel
theorem dV_allowed_13 : decode cV_allowed 13 = .ok (.iconst 0, 1) := by decide +kernel
theorem dV_allowed_14 : decode cV_allowed 14 = .ok (.ireturn, 1) := by decide +kernel
abbrev cP_failsBy : ByteArray := prog_6_method_4_code
abbrev yP_failsBy : MethodName := ⟨"DrawingVault$Pages", "failsBy", "(I)Z"⟩
theorem dP_failsBy_0 : decode cP_failsBy 0 = .ok (.aload_n 0, 1) := by decide +kernel
theorem dP_failsBy_1 : decode cP_failsBy 1 = .ok (.getfield 15, 3) := by decide +kernel
theorem dP_failsBy_4 : decode cP_failsBy 4 = .ok (.ifCond .eq 15, 3) := by decide +kernel
theorem dP_failsBy_19 : decode cP_failsBy 19 = .ok (.iconst 0, 1) := by decide +kernel
theorem dP_failsBy_20 : decode cP_failsBy 20 = .ok (.ireturn, 1) := by decide +kernel
abbrev cV_mayWrite : ByteArray := prog_1_method_27_code
abbrev yV_mayWrite : MethodName := ⟨"DrawingVault", "mayWrite", "(II)Z"⟩
theorem dV_mayWrite_0 : decode cV_mayWrite 0 = .ok (.iload_n 1, 1) := by decide +kernel
theorem dV_mayWrite_1 : decode cV_mayWrite 1 = .ok (.ifCond .ne 21, 3) := by decide +kernel
theorem dV_mayWrite_4 : decode cV_mayWrite 4 = .ok (.iload_n 2, 1) := by decide +kernel
theorem dV_mayWrite_5 : decode cV_mayWrite 5 = .ok (.aload_n 0, 1) := by decide +kernel
theorem dV_mayWrite_6 : decode cV_mayWrite 6 = .ok (.getfield 40, 3) := by decide +kernel
theorem dV_mayWrite_9 : decode cV_mayWrite 9 = .ok (.getfield 253, 3) := by decide +kernel
theorem dV_mayWrite_12 : decode cV_mayWrite 12 = .ok (.if_icmp .le 10, 3) := by decide +kernel
theorem dV_mayWrite_22 : decode cV_mayWrite 22 = .ok (.iload_n 1, 1) := by decide +kernel
theorem dV_mayWrite_23 : decode cV_mayWrite 23 = .ok (.ifCond .ne 30, 3) := by decide +kernel
theorem dV_mayWrite_26 : decode cV_mayWrite 26 = .ok (.aload_n 0, 1) := by decide +kernel
theorem dV_mayWrite_27 : decode cV_mayWrite 27 = .ok (.getfield 40, 3) := by decide +kernel
theorem dV_mayWrite_30 : decode cV_mayWrite 30 = .ok (.iload_n 2, 1) := by decide +kernel
theorem dV_mayWrite_31 : decode cV_mayWrite 31 = .ok (.invokevirtual 268, 3) := by decide +kernel
theorem dV_mayWrite_34 : decode cV_mayWrite 34 = .ok (.ifCond .eq 19, 3) := by decide +kernel
theorem dV_mayWrite_53 : decode cV_mayWrite 53 = .ok (.aload_n 0, 1) := by decide +kernel
theorem dV_mayWrite_54 : decode cV_mayWrite 54 = .ok (.iload_n 1, 1) := by decide +kernel
theorem dV_mayWrite_55 : decode cV_mayWrite 55 = .ok (.invokevirtual 100, 3) := by decide +kernel
theorem dV_mayWrite_58 : decode cV_mayWrite 58 = .ok (.ireturn, 1) := by decide +kernel
abbrev cV_becomes : ByteArray := prog_1_method_29_code
abbrev yV_becomes : MethodName := ⟨"DrawingVault", "becomes", "(IIII)Z"⟩
theorem dV_becomes_0 : decode cV_becomes 0 = .ok (.aload_n 0, 1) := by decide +kernel
theorem dV_becomes_1 : decode cV_becomes 1 = .ok (.iload_n 1, 1) := by decide +kernel
theorem dV_becomes_2 : decode cV_becomes 2 = .ok (.iload_n 2, 1) := by decide +kernel
theorem dV_becomes_3 : decode cV_becomes 3 = .ok (.invokevirtual 163, 3) := by decide +kernel
theorem dV_becomes_6 : decode cV_becomes 6 = .ok (.astore 5, 2) := by decide +kernel
theorem dV_becomes_8 : decode cV_becomes 8 = .ok (.aload_n 0, 1) := by decide +kernel
theorem dV_becomes_9 : decode cV_becomes 9 = .ok (.iload 4, 2) := by decide +kernel
theorem dV_becomes_11 : decode cV_becomes 11 = .ok (.iconst 1, 1) := by decide +kernel
theorem dV_becomes_12 : decode cV_becomes 12 = .ok (.invokevirtual 51, 3) := by decide +kernel
theorem dV_becomes_15 : decode cV_becomes 15 = .ok (.ifCond .eq 8, 3) := by decide +kernel
theorem dV_becomes_23 : decode cV_becomes 23 = .ok (.iconst 0, 1) := by decide +kernel
theorem dV_becomes_24 : decode cV_becomes 24 = .ok (.ireturn, 1) := by decide +kernel
abbrev cV_drawing : ByteArray := prog_1_method_3_code
abbrev yV_drawing : MethodName := ⟨"DrawingVault", "drawing", "(I)I"⟩
theorem dV_drawing_0 : decode cV_drawing 0 = .ok (.aload_n 0, 1) := by decide +kernel
theorem dV_drawing_1 : decode cV_drawing 1 = .ok (.invokevirtual 44, 3) := by decide +kernel
theorem dV_drawing_4 : decode cV_drawing 4 = .ok (.aload_n 0, 1) := by decide +kernel
theorem dV_drawing_5 : decode cV_drawing 5 = .ok (.aload_n 0, 1) := by decide +kernel
theorem dV_drawing_6 : decode cV_drawing 6 = .ok (.iload_n 1, 1) := by decide +kernel
theorem dV_drawing_7 : decode cV_drawing 7 = .ok (.invokevirtual 59, 3) := by decide +kernel
theorem dV_drawing_10 : decode cV_drawing 10 = .ok (.iconst 2, 1) := by decide +kernel
theorem dV_drawing_11 : decode cV_drawing 11 = .ok (.invokevirtual 51, 3) := by decide +kernel
theorem dV_drawing_14 : decode cV_drawing 14 = .ok (.ifCond .ne 5, 3) := by decide +kernel
theorem dV_drawing_17 : decode cV_drawing 17 = .ok (.iconst (-1), 1) := by decide +kernel
theorem dV_drawing_18 : decode cV_drawing 18 = .ok (.ireturn, 1) := by decide +kernel
abbrev cV_out : ByteArray := prog_1_method_4_code
abbrev yV_out : MethodName := ⟨"DrawingVault", "out", "(II)Z"⟩
theorem dV_out_0 : decode cV_out 0 = .ok (.aload_n 0, 1) := by decide +kernel
theorem dV_out_1 : decode cV_out 1 = .ok (.invokevirtual 44, 3) := by decide +kernel
theorem dV_out_4 : decode cV_out 4 = .ok (.aload_n 0, 1) := by decide +kernel
theorem dV_out_5 : decode cV_out 5 = .ok (.iload_n 1, 1) := by decide +kernel
theorem dV_out_6 : decode cV_out 6 = .ok (.invokevirtual 74, 3) := by decide +kernel
theorem dV_out_9 : decode cV_out 9 = .ok (.astore_n 3, 1) := by decide +kernel
theorem dV_out_10 : decode cV_out 10 = .ok (.aload_n 0, 1) := by decide +kernel
theorem dV_out_11 : decode cV_out 11 = .ok (.aload_n 0, 1) := by decide +kernel
theorem dV_out_12 : decode cV_out 12 = .ok (.aload_n 3, 1) := by decide +kernel
theorem dV_out_13 : decode cV_out 13 = .ok (.iload_n 2, 1) := by decide +kernel
theorem dV_out_14 : decode cV_out 14 = .ok (.invokevirtual 78, 3) := by decide +kernel
theorem dV_out_17 : decode cV_out 17 = .ok (.iconst 1, 1) := by decide +kernel
theorem dV_out_18 : decode cV_out 18 = .ok (.invokevirtual 51, 3) := by decide +kernel
theorem dV_out_21 : decode cV_out 21 = .ok (.ifCond .ne 5, 3) := by decide +kernel
theorem dV_out_24 : decode cV_out 24 = .ok (.iconst 0, 1) := by decide +kernel
theorem dV_out_25 : decode cV_out 25 = .ok (.ireturn, 1) := by decide +kernel
abbrev cV_undo : ByteArray := prog_1_method_5_code
abbrev yV_undo : MethodName := ⟨"DrawingVault", "undo", "(II)Z"⟩
theorem dV_undo_0 : decode cV_undo 0 = .ok (.aload_n 0, 1) := by decide +kernel
theorem dV_undo_1 : decode cV_undo 1 = .ok (.invokevirtual 44, 3) := by decide +kernel
theorem dV_undo_4 : decode cV_undo 4 = .ok (.aload_n 0, 1) := by decide +kernel
theorem dV_undo_5 : decode cV_undo 5 = .ok (.iload_n 1, 1) := by decide +kernel
theorem dV_undo_6 : decode cV_undo 6 = .ok (.invokevirtual 74, 3) := by decide +kernel
theorem dV_undo_9 : decode cV_undo 9 = .ok (.astore_n 3, 1) := by decide +kernel
theorem dV_undo_10 : decode cV_undo 10 = .ok (.aload_n 0, 1) := by decide +kernel
theorem dV_undo_11 : decode cV_undo 11 = .ok (.aload_n 0, 1) := by decide +kernel
theorem dV_undo_12 : decode cV_undo 12 = .ok (.aload_n 3, 1) := by decide +kernel
theorem dV_undo_13 : decode cV_undo 13 = .ok (.iload_n 2, 1) := by decide +kernel
theorem dV_undo_14 : decode cV_undo 14 = .ok (.invokevirtual 85, 3) := by decide +kernel
theorem dV_undo_17 : decode cV_undo 17 = .ok (.iconst 1, 1) := by decide +kernel
theorem dV_undo_18 : decode cV_undo 18 = .ok (.invokevirtual 51, 3) := by decide +kernel
theorem dV_undo_21 : decode cV_undo 21 = .ok (.ifCond .ne 5, 3) := by decide +kernel
theorem dV_undo_24 : decode cV_undo 24 = .ok (.iconst 0, 1) := by decide +kernel
theorem dV_undo_25 : decode cV_undo 25 = .ok (.ireturn, 1) := by decide +kernel
abbrev cV_put : ByteArray := prog_1_method_6_code
abbrev yV_put : MethodName := ⟨"DrawingVault", "put", "(IIII)Z"⟩
theorem dV_put_0 : decode cV_put 0 = .ok (.aload_n 0, 1) := by decide +kernel
theorem dV_put_1 : decode cV_put 1 = .ok (.invokevirtual 44, 3) := by decide +kernel
theorem dV_put_4 : decode cV_put 4 = .ok (.aload_n 0, 1) := by decide +kernel
theorem dV_put_5 : decode cV_put 5 = .ok (.iload_n 1, 1) := by decide +kernel
theorem dV_put_6 : decode cV_put 6 = .ok (.invokevirtual 74, 3) := by decide +kernel
theorem dV_put_9 : decode cV_put 9 = .ok (.astore 5, 2) := by decide +kernel
theorem dV_put_11 : decode cV_put 11 = .ok (.aload_n 0, 1) := by decide +kernel
theorem dV_put_12 : decode cV_put 12 = .ok (.aload 5, 2) := by decide +kernel
theorem dV_put_14 : decode cV_put 14 = .ok (.iload_n 2, 1) := by decide +kernel
theorem dV_put_15 : decode cV_put 15 = .ok (.invokevirtual 85, 3) := by decide +kernel
theorem dV_put_18 : decode cV_put 18 = .ok (.istore 6, 2) := by decide +kernel
theorem dV_put_20 : decode cV_put 20 = .ok (.iload 6, 2) := by decide +kernel
theorem dV_put_22 : decode cV_put 22 = .ok (.ifCond .ne 32, 3) := by decide +kernel
theorem dV_put_54 : decode cV_put 54 = .ok (.aload_n 0, 1) := by decide +kernel
theorem dV_put_55 : decode cV_put 55 = .ok (.iload 6, 2) := by decide +kernel
theorem dV_put_57 : decode cV_put 57 = .ok (.invokevirtual 100, 3) := by decide +kernel
theorem dV_put_60 : decode cV_put 60 = .ok (.ifCond .ne 5, 3) := by decide +kernel
theorem dV_put_63 : decode cV_put 63 = .ok (.iconst 0, 1) := by decide +kernel
theorem dV_put_64 : decode cV_put 64 = .ok (.ireturn, 1) := by decide +kernel
abbrev cV_resize : ByteArray := prog_1_method_7_code
abbrev yV_resize : MethodName := ⟨"DrawingVault", "resize", "(III)Z"⟩
theorem dV_resize_0 : decode cV_resize 0 = .ok (.aload_n 0, 1) := by decide +kernel
theorem dV_resize_1 : decode cV_resize 1 = .ok (.invokevirtual 44, 3) := by decide +kernel
theorem dV_resize_4 : decode cV_resize 4 = .ok (.aload_n 0, 1) := by decide +kernel
theorem dV_resize_5 : decode cV_resize 5 = .ok (.iload_n 1, 1) := by decide +kernel
theorem dV_resize_6 : decode cV_resize 6 = .ok (.invokevirtual 74, 3) := by decide +kernel
theorem dV_resize_9 : decode cV_resize 9 = .ok (.astore 4, 2) := by decide +kernel
theorem dV_resize_11 : decode cV_resize 11 = .ok (.aload_n 0, 1) := by decide +kernel
theorem dV_resize_12 : decode cV_resize 12 = .ok (.aload 4, 2) := by decide +kernel
theorem dV_resize_14 : decode cV_resize 14 = .ok (.iload_n 2, 1) := by decide +kernel
theorem dV_resize_15 : decode cV_resize 15 = .ok (.invokevirtual 85, 3) := by decide +kernel
theorem dV_resize_18 : decode cV_resize 18 = .ok (.istore 5, 2) := by decide +kernel
theorem dV_resize_20 : decode cV_resize 20 = .ok (.iload 5, 2) := by decide +kernel
theorem dV_resize_22 : decode cV_resize 22 = .ok (.ifCond .ne 17, 3) := by decide +kernel
theorem dV_resize_39 : decode cV_resize 39 = .ok (.aload_n 0, 1) := by decide +kernel
theorem dV_resize_40 : decode cV_resize 40 = .ok (.iload 5, 2) := by decide +kernel
theorem dV_resize_42 : decode cV_resize 42 = .ok (.invokevirtual 100, 3) := by decide +kernel
theorem dV_resize_45 : decode cV_resize 45 = .ok (.ifCond .ne 5, 3) := by decide +kernel
theorem dV_resize_48 : decode cV_resize 48 = .ok (.iconst 0, 1) := by decide +kernel
theorem dV_resize_49 : decode cV_resize 49 = .ok (.ireturn, 1) := by decide +kernel
abbrev cV_ref : ByteArray := prog_1_method_8_code
abbrev yV_ref : MethodName := ⟨"DrawingVault", "ref", "(IIIII)Z"⟩
theorem dV_ref_0 : decode cV_ref 0 = .ok (.aload_n 0, 1) := by decide +kernel
theorem dV_ref_1 : decode cV_ref 1 = .ok (.invokevirtual 44, 3) := by decide +kernel
theorem dV_ref_4 : decode cV_ref 4 = .ok (.aload_n 0, 1) := by decide +kernel
theorem dV_ref_5 : decode cV_ref 5 = .ok (.iload_n 1, 1) := by decide +kernel
theorem dV_ref_6 : decode cV_ref 6 = .ok (.invokevirtual 74, 3) := by decide +kernel
theorem dV_ref_9 : decode cV_ref 9 = .ok (.astore 6, 2) := by decide +kernel
theorem dV_ref_11 : decode cV_ref 11 = .ok (.aload_n 0, 1) := by decide +kernel
theorem dV_ref_12 : decode cV_ref 12 = .ok (.aload 6, 2) := by decide +kernel
theorem dV_ref_14 : decode cV_ref 14 = .ok (.iload_n 2, 1) := by decide +kernel
theorem dV_ref_15 : decode cV_ref 15 = .ok (.invokevirtual 85, 3) := by decide +kernel
theorem dV_ref_18 : decode cV_ref 18 = .ok (.istore 7, 2) := by decide +kernel
theorem dV_ref_20 : decode cV_ref 20 = .ok (.iload 7, 2) := by decide +kernel
theorem dV_ref_22 : decode cV_ref 22 = .ok (.ifCond .ne 19, 3) := by decide +kernel
theorem dV_ref_41 : decode cV_ref 41 = .ok (.aload_n 0, 1) := by decide +kernel
theorem dV_ref_42 : decode cV_ref 42 = .ok (.iload 7, 2) := by decide +kernel
theorem dV_ref_44 : decode cV_ref 44 = .ok (.invokevirtual 100, 3) := by decide +kernel
theorem dV_ref_47 : decode cV_ref 47 = .ok (.ifCond .ne 5, 3) := by decide +kernel
theorem dV_ref_50 : decode cV_ref 50 = .ok (.iconst 0, 1) := by decide +kernel
theorem dV_ref_51 : decode cV_ref 51 = .ok (.ireturn, 1) := by decide +kernel
abbrev cV_drop : ByteArray := prog_1_method_9_code
abbrev yV_drop : MethodName := ⟨"DrawingVault", "drop", "(III)Z"⟩
theorem dV_drop_0 : decode cV_drop 0 = .ok (.aload_n 0, 1) := by decide +kernel
theorem dV_drop_1 : decode cV_drop 1 = .ok (.invokevirtual 44, 3) := by decide +kernel
theorem dV_drop_4 : decode cV_drop 4 = .ok (.aload_n 0, 1) := by decide +kernel
theorem dV_drop_5 : decode cV_drop 5 = .ok (.iload_n 1, 1) := by decide +kernel
theorem dV_drop_6 : decode cV_drop 6 = .ok (.invokevirtual 74, 3) := by decide +kernel
theorem dV_drop_9 : decode cV_drop 9 = .ok (.astore 4, 2) := by decide +kernel
theorem dV_drop_11 : decode cV_drop 11 = .ok (.aload_n 0, 1) := by decide +kernel
theorem dV_drop_12 : decode cV_drop 12 = .ok (.aload 4, 2) := by decide +kernel
theorem dV_drop_14 : decode cV_drop 14 = .ok (.iload_n 2, 1) := by decide +kernel
theorem dV_drop_15 : decode cV_drop 15 = .ok (.invokevirtual 85, 3) := by decide +kernel
theorem dV_drop_18 : decode cV_drop 18 = .ok (.istore 5, 2) := by decide +kernel
theorem dV_drop_20 : decode cV_drop 20 = .ok (.iload 5, 2) := by decide +kernel
theorem dV_drop_22 : decode cV_drop 22 = .ok (.ifCond .ne 19, 3) := by decide +kernel
theorem dV_drop_41 : decode cV_drop 41 = .ok (.aload_n 0, 1) := by decide +kernel
theorem dV_drop_42 : decode cV_drop 42 = .ok (.iload 5, 2) := by decide +kernel
theorem dV_drop_44 : decode cV_drop 44 = .ok (.invokevirtual 100, 3) := by decide +kernel
theorem dV_drop_47 : decode cV_drop 47 = .ok (.ifCond .ne 5, 3) := by decide +kernel
theorem dV_drop_50 : decode cV_drop 50 = .ok (.iconst 0, 1) := by decide +kernel
theorem dV_drop_51 : decode cV_drop 51 = .ok (.ireturn, 1) := by decide +kernel
abbrev cV_checkIn : ByteArray := prog_1_method_10_code
abbrev yV_checkIn : MethodName := ⟨"DrawingVault", "checkIn", "(II)I"⟩
theorem dV_checkIn_0 : decode cV_checkIn 0 = .ok (.aload_n 0, 1) := by decide +kernel
theorem dV_checkIn_1 : decode cV_checkIn 1 = .ok (.invokevirtual 44, 3) := by decide +kernel
theorem dV_checkIn_4 : decode cV_checkIn 4 = .ok (.aload_n 0, 1) := by decide +kernel
theorem dV_checkIn_5 : decode cV_checkIn 5 = .ok (.iload_n 1, 1) := by decide +kernel
theorem dV_checkIn_6 : decode cV_checkIn 6 = .ok (.invokevirtual 74, 3) := by decide +kernel
theorem dV_checkIn_9 : decode cV_checkIn 9 = .ok (.astore_n 3, 1) := by decide +kernel
theorem dV_checkIn_10 : decode cV_checkIn 10 = .ok (.aload_n 0, 1) := by decide +kernel
theorem dV_checkIn_11 : decode cV_checkIn 11 = .ok (.aload_n 3, 1) := by decide +kernel
theorem dV_checkIn_12 : decode cV_checkIn 12 = .ok (.iload_n 2, 1) := by decide +kernel
theorem dV_checkIn_13 : decode cV_checkIn 13 = .ok (.invokevirtual 85, 3) := by decide +kernel
theorem dV_checkIn_16 : decode cV_checkIn 16 = .ok (.istore 4, 2) := by decide +kernel
theorem dV_checkIn_18 : decode cV_checkIn 18 = .ok (.iconst 0, 1) := by decide +kernel
theorem dV_checkIn_19 : decode cV_checkIn 19 = .ok (.istore 5, 2) := by decide +kernel
theorem dV_checkIn_21 : decode cV_checkIn 21 = .ok (.iload 4, 2) := by decide +kernel
theorem dV_checkIn_23 : decode cV_checkIn 23 = .ok (.ifCond .ne 26, 3) := by decide +kernel
theorem dV_checkIn_49 : decode cV_checkIn 49 = .ok (.aload_n 0, 1) := by decide +kernel
theorem dV_checkIn_50 : decode cV_checkIn 50 = .ok (.iload 4, 2) := by decide +kernel
theorem dV_checkIn_52 : decode cV_checkIn 52 = .ok (.iload 5, 2) := by decide +kernel
theorem dV_checkIn_54 : decode cV_checkIn 54 = .ok (.invokevirtual 51, 3) := by decide +kernel
theorem dV_checkIn_57 : decode cV_checkIn 57 = .ok (.ifCond .ne 5, 3) := by decide +kernel
theorem dV_checkIn_60 : decode cV_checkIn 60 = .ok (.iconst (-1), 1) := by decide +kernel
theorem dV_checkIn_61 : decode cV_checkIn 61 = .ok (.ireturn, 1) := by decide +kernel
abbrev cV_check : ByteArray := prog_1_method_11_code
abbrev yV_check : MethodName := ⟨"DrawingVault", "check", "(III)Z"⟩
theorem dV_check_0 : decode cV_check 0 = .ok (.aload_n 0, 1) := by decide +kernel
theorem dV_check_1 : decode cV_check 1 = .ok (.invokevirtual 44, 3) := by decide +kernel
theorem dV_check_4 : decode cV_check 4 = .ok (.aload_n 0, 1) := by decide +kernel
theorem dV_check_5 : decode cV_check 5 = .ok (.iload_n 1, 1) := by decide +kernel
theorem dV_check_6 : decode cV_check 6 = .ok (.iload_n 2, 1) := by decide +kernel
theorem dV_check_7 : decode cV_check 7 = .ok (.iconst 1, 1) := by decide +kernel
theorem dV_check_8 : decode cV_check 8 = .ok (.aload_n 0, 1) := by decide +kernel
theorem dV_check_9 : decode cV_check 9 = .ok (.iload_n 1, 1) := by decide +kernel
theorem dV_check_10 : decode cV_check 10 = .ok (.iload_n 2, 1) := by decide +kernel
theorem dV_check_11 : decode cV_check 11 = .ok (.iload_n 3, 1) := by decide +kernel
theorem dV_check_12 : decode cV_check 12 = .ok (.invokevirtual 136, 3) := by decide +kernel
theorem dV_check_15 : decode cV_check 15 = .ok (.invokevirtual 140, 3) := by decide +kernel
theorem dV_check_18 : decode cV_check 18 = .ok (.ireturn, 1) := by decide +kernel
abbrev cV_release : ByteArray := prog_1_method_12_code
abbrev yV_release : MethodName := ⟨"DrawingVault", "release", "(III)Z"⟩
theorem dV_release_0 : decode cV_release 0 = .ok (.aload_n 0, 1) := by decide +kernel
theorem dV_release_1 : decode cV_release 1 = .ok (.invokevirtual 44, 3) := by decide +kernel
theorem dV_release_4 : decode cV_release 4 = .ok (.aload_n 0, 1) := by decide +kernel
theorem dV_release_5 : decode cV_release 5 = .ok (.iload_n 1, 1) := by decide +kernel
theorem dV_release_6 : decode cV_release 6 = .ok (.iload_n 2, 1) := by decide +kernel
theorem dV_release_7 : decode cV_release 7 = .ok (.iconst 2, 1) := by decide +kernel
theorem dV_release_8 : decode cV_release 8 = .ok (.aload_n 0, 1) := by decide +kernel
theorem dV_release_9 : decode cV_release 9 = .ok (.iload_n 1, 1) := by decide +kernel
theorem dV_release_10 : decode cV_release 10 = .ok (.iload_n 2, 1) := by decide +kernel
theorem dV_release_11 : decode cV_release 11 = .ok (.iload_n 3, 1) := by decide +kernel
theorem dV_release_12 : decode cV_release 12 = .ok (.invokevirtual 144, 3) := by decide +kernel
theorem dV_release_15 : decode cV_release 15 = .ok (.invokevirtual 140, 3) := by decide +kernel
theorem dV_release_18 : decode cV_release 18 = .ok (.ireturn, 1) := by decide +kernel
abbrev cV_withdraw : ByteArray := prog_1_method_13_code
abbrev yV_withdraw : MethodName := ⟨"DrawingVault", "withdraw", "(III)Z"⟩
theorem dV_withdraw_0 : decode cV_withdraw 0 = .ok (.aload_n 0, 1) := by decide +kernel
theorem dV_withdraw_1 : decode cV_withdraw 1 = .ok (.invokevirtual 44, 3) := by decide +kernel
theorem dV_withdraw_4 : decode cV_withdraw 4 = .ok (.aload_n 0, 1) := by decide +kernel
theorem dV_withdraw_5 : decode cV_withdraw 5 = .ok (.iload_n 1, 1) := by decide +kernel
theorem dV_withdraw_6 : decode cV_withdraw 6 = .ok (.iload_n 2, 1) := by decide +kernel
theorem dV_withdraw_7 : decode cV_withdraw 7 = .ok (.iconst 3, 1) := by decide +kernel
theorem dV_withdraw_8 : decode cV_withdraw 8 = .ok (.aload_n 0, 1) := by decide +kernel
theorem dV_withdraw_9 : decode cV_withdraw 9 = .ok (.iload_n 1, 1) := by decide +kernel
theorem dV_withdraw_10 : decode cV_withdraw 10 = .ok (.iload_n 2, 1) := by decide +kernel
theorem dV_withdraw_11 : decode cV_withdraw 11 = .ok (.iload_n 3, 1) := by decide +kernel
theorem dV_withdraw_12 : decode cV_withdraw 12 = .ok (.invokevirtual 147, 3) := by decide +kernel
theorem dV_withdraw_15 : decode cV_withdraw 15 = .ok (.invokevirtual 140, 3) := by decide +kernel
theorem dV_withdraw_18 : decode cV_withdraw 18 = .ok (.ireturn, 1) := by decide +kernel
abbrev cP_write : ByteArray := prog_6_method_5_code
abbrev yP_write : MethodName := ⟨"DrawingVault$Pages", "write", "(I)V"⟩
theorem dP_write_0 : decode cP_write 0 = .ok (.aload_n 0, 1) := by decide +kernel
theorem dP_write_1 : decode cP_write 1 = .ok (.dup, 1) := by decide +kernel
theorem dP_write_2 : decode cP_write 2 = .ok (.getfield 9, 3) := by decide +kernel
theorem dP_write_5 : decode cP_write 5 = .ok (.iload_n 1, 1) := by decide +kernel
theorem dP_write_6 : decode cP_write 6 = .ok (.isub, 1) := by decide +kernel
theorem dP_write_7 : decode cP_write 7 = .ok (.putfield 9, 3) := by decide +kernel
theorem dP_write_10 : decode cP_write 10 = .ok (.aload_n 0, 1) := by decide +kernel
theorem dP_write_11 : decode cP_write 11 = .ok (.dup, 1) := by decide +kernel
theorem dP_write_12 : decode cP_write 12 = .ok (.getfield 25, 3) := by decide +kernel
theorem dP_write_15 : decode cP_write 15 = .ok (.iconst 1, 1) := by decide +kernel
theorem dP_write_16 : decode cP_write 16 = .ok (.iadd, 1) := by decide +kernel
theorem dP_write_17 : decode cP_write 17 = .ok (.putfield 25, 3) := by decide +kernel
theorem dP_write_20 : decode cP_write 20 = .ok (.aload_n 0, 1) := by decide +kernel
theorem dP_write_21 : decode cP_write 21 = .ok (.getfield 15, 3) := by decide +kernel
theorem dP_write_24 : decode cP_write 24 = .ok (.ifCond .eq 13, 3) := by decide +kernel
theorem dP_write_37 : decode cP_write 37 = .ok (.return_, 1) := by decide +kernel
abbrev cP_areLow : ByteArray := prog_6_method_6_code
abbrev yP_areLow : MethodName := ⟨"DrawingVault$Pages", "areLow", "()Z"⟩
theorem dP_areLow_0 : decode cP_areLow 0 = .ok (.aload_n 0, 1) := by decide +kernel
theorem dP_areLow_1 : decode cP_areLow 1 = .ok (.getfield 9, 3) := by decide +kernel
theorem dP_areLow_4 : decode cP_areLow 4 = .ok (.bipush 40, 2) := by decide +kernel
theorem dP_areLow_6 : decode cP_areLow 6 = .ok (.if_icmp .ge 7, 3) := by decide +kernel
theorem dP_areLow_13 : decode cP_areLow 13 = .ok (.iconst 0, 1) := by decide +kernel
theorem dP_areLow_14 : decode cP_areLow 14 = .ok (.ireturn, 1) := by decide +kernel
abbrev cV_finish : ByteArray := prog_1_method_28_code
abbrev yV_finish : MethodName := ⟨"DrawingVault", "finish", "(I)V"⟩
theorem dV_finish_0 : decode cV_finish 0 = .ok (.aload_n 0, 1) := by decide +kernel
theorem dV_finish_1 : decode cV_finish 1 = .ok (.getfield 40, 3) := by decide +kernel
theorem dV_finish_4 : decode cV_finish 4 = .ok (.iload_n 1, 1) := by decide +kernel
theorem dV_finish_5 : decode cV_finish 5 = .ok (.invokevirtual 271, 3) := by decide +kernel
theorem dV_finish_8 : decode cV_finish 8 = .ok (.iconst 0, 1) := by decide +kernel
theorem dV_finish_9 : decode cV_finish 9 = .ok (.istore_n 2, 1) := by decide +kernel
theorem dV_finish_10 : decode cV_finish 10 = .ok (.iload_n 2, 1) := by decide +kernel
theorem dV_finish_11 : decode cV_finish 11 = .ok (.aload_n 0, 1) := by decide +kernel
theorem dV_finish_12 : decode cV_finish 12 = .ok (.getfield 67, 3) := by decide +kernel
theorem dV_finish_15 : decode cV_finish 15 = .ok (.if_icmp .ge 30, 3) := by decide +kernel
theorem dV_finish_45 : decode cV_finish 45 = .ok (.aload_n 0, 1) := by decide +kernel
theorem dV_finish_46 : decode cV_finish 46 = .ok (.getfield 40, 3) := by decide +kernel
theorem dV_finish_49 : decode cV_finish 49 = .ok (.invokevirtual 274, 3) := by decide +kernel
theorem dV_finish_52 : decode cV_finish 52 = .ok (.ifCond .eq 14, 3) := by decide +kernel
theorem dV_finish_66 : decode cV_finish 66 = .ok (.return_, 1) := by decide +kernel
abbrev cV_person : ByteArray := prog_1_method_2_code
abbrev yV_person : MethodName := ⟨"DrawingVault", "person", "(II)Z"⟩
theorem dV_person_0 : decode cV_person 0 = .ok (.aload_n 0, 1) := by decide +kernel
theorem dV_person_1 : decode cV_person 1 = .ok (.invokevirtual 44, 3) := by decide +kernel
theorem dV_person_4 : decode cV_person 4 = .ok (.iload_n 1, 1) := by decide +kernel
theorem dV_person_5 : decode cV_person 5 = .ok (.invokestatic 47, 3) := by decide +kernel
theorem dV_person_8 : decode cV_person 8 = .ok (.ifCond .eq 17, 3) := by decide +kernel
theorem dV_person_11 : decode cV_person 11 = .ok (.iload_n 2, 1) := by decide +kernel
theorem dV_person_12 : decode cV_person 12 = .ok (.ifCond .lt 13, 3) := by decide +kernel
theorem dV_person_15 : decode cV_person 15 = .ok (.iload_n 2, 1) := by decide +kernel
theorem dV_person_16 : decode cV_person 16 = .ok (.bipush 7, 2) := by decide +kernel
theorem dV_person_18 : decode cV_person 18 = .ok (.if_icmp .gt 7, 3) := by decide +kernel
theorem dV_person_21 : decode cV_person 21 = .ok (.iconst 1, 1) := by decide +kernel
theorem dV_person_22 : decode cV_person 22 = .ok (.goto 4, 3) := by decide +kernel
theorem dV_person_25 : decode cV_person 25 = .ok (.iconst 0, 1) := by decide +kernel
theorem dV_person_26 : decode cV_person 26 = .ok (.istore_n 3, 1) := by decide +kernel
theorem dV_person_27 : decode cV_person 27 = .ok (.aload_n 0, 1) := by decide +kernel
theorem dV_person_28 : decode cV_person 28 = .ok (.iload_n 3, 1) := by decide +kernel
theorem dV_person_29 : decode cV_person 29 = .ok (.ifCond .eq 7, 3) := by decide +kernel
theorem dV_person_32 : decode cV_person 32 = .ok (.iconst 0, 1) := by decide +kernel
theorem dV_person_33 : decode cV_person 33 = .ok (.goto 5, 3) := by decide +kernel
theorem dV_person_36 : decode cV_person 36 = .ok (.bipush 7, 2) := by decide +kernel
theorem dV_person_38 : decode cV_person 38 = .ok (.iconst 1, 1) := by decide +kernel
theorem dV_person_39 : decode cV_person 39 = .ok (.invokevirtual 51, 3) := by decide +kernel
theorem dV_person_42 : decode cV_person 42 = .ok (.ifCond .ne 5, 3) := by decide +kernel
theorem dV_person_45 : decode cV_person 45 = .ok (.iconst 0, 1) := by decide +kernel
theorem dV_person_46 : decode cV_person 46 = .ok (.ireturn, 1) := by decide +kernel
theorem dV_person_47 : decode cV_person 47 = .ok (.aload_n 0, 1) := by decide +kernel
theorem dV_person_48 : decode cV_person 48 = .ok (.getfield 9, 3) := by decide +kernel
theorem dV_person_51 : decode cV_person 51 = .ok (.iload_n 1, 1) := by decide +kernel
theorem dV_person_52 : decode cV_person 52 = .ok (.iload_n 2, 1) := by decide +kernel
theorem dV_person_53 : decode cV_person 53 = .ok (.iastore, 1) := by decide +kernel
theorem dV_person_54 : decode cV_person 54 = .ok (.aload_n 0, 1) := by decide +kernel
theorem dV_person_55 : decode cV_person 55 = .ok (.iconst 1, 1) := by decide +kernel
theorem dV_person_56 : decode cV_person 56 = .ok (.invokevirtual 55, 3) := by decide +kernel
theorem dV_person_59 : decode cV_person 59 = .ok (.iconst 1, 1) := by decide +kernel
theorem dV_person_60 : decode cV_person 60 = .ok (.ireturn, 1) := by decide +kernel
abbrev cP_failAhead : ByteArray := prog_6_method_2_code
abbrev yP_failAhead : MethodName := ⟨"DrawingVault$Pages", "failAhead", "(I)V"⟩
theorem dP_failAhead_0 : decode cP_failAhead 0 = .ok (.aload_n 0, 1) := by decide +kernel
theorem dP_failAhead_1 : decode cP_failAhead 1 = .ok (.iconst 1, 1) := by decide +kernel
theorem dP_failAhead_2 : decode cP_failAhead 2 = .ok (.putfield 15, 3) := by decide +kernel
theorem dP_failAhead_5 : decode cP_failAhead 5 = .ok (.aload_n 0, 1) := by decide +kernel
theorem dP_failAhead_6 : decode cP_failAhead 6 = .ok (.iload_n 1, 1) := by decide +kernel
theorem dP_failAhead_7 : decode cP_failAhead 7 = .ok (.putfield 19, 3) := by decide +kernel
theorem dP_failAhead_10 : decode cP_failAhead 10 = .ok (.return_, 1) := by decide +kernel
abbrev cV_failAfter : ByteArray := prog_1_method_22_code
abbrev yV_failAfter : MethodName := ⟨"DrawingVault", "failAfter", "(I)Z"⟩
theorem dV_failAfter_0 : decode cV_failAfter 0 = .ok (.iload_n 1, 1) := by decide +kernel
theorem dV_failAfter_1 : decode cV_failAfter 1 = .ok (.ifCond .lt 13, 3) := by decide +kernel
theorem dV_failAfter_4 : decode cV_failAfter 4 = .ok (.aload_n 0, 1) := by decide +kernel
theorem dV_failAfter_5 : decode cV_failAfter 5 = .ok (.getfield 40, 3) := by decide +kernel
theorem dV_failAfter_8 : decode cV_failAfter 8 = .ok (.getfield 230, 3) := by decide +kernel
theorem dV_failAfter_11 : decode cV_failAfter 11 = .ok (.ifCond .eq 5, 3) := by decide +kernel
theorem dV_failAfter_14 : decode cV_failAfter 14 = .ok (.iconst 0, 1) := by decide +kernel
theorem dV_failAfter_15 : decode cV_failAfter 15 = .ok (.ireturn, 1) := by decide +kernel
theorem dV_failAfter_16 : decode cV_failAfter 16 = .ok (.aload_n 0, 1) := by decide +kernel
theorem dV_failAfter_17 : decode cV_failAfter 17 = .ok (.getfield 40, 3) := by decide +kernel
theorem dV_failAfter_20 : decode cV_failAfter 20 = .ok (.iload_n 1, 1) := by decide +kernel
theorem dV_failAfter_21 : decode cV_failAfter 21 = .ok (.invokevirtual 234, 3) := by decide +kernel
theorem dV_failAfter_24 : decode cV_failAfter 24 = .ok (.iconst 1, 1) := by decide +kernel
theorem dV_failAfter_25 : decode cV_failAfter 25 = .ok (.ireturn, 1) := by decide +kernel
abbrev cP_switchOn : ByteArray := prog_6_method_3_code
abbrev yP_switchOn : MethodName := ⟨"DrawingVault$Pages", "switchOn", "()V"⟩
theorem dP_switchOn_0 : decode cP_switchOn 0 = .ok (.aload_n 0, 1) := by decide +kernel
theorem dP_switchOn_1 : decode cP_switchOn 1 = .ok (.iconst 0, 1) := by decide +kernel
theorem dP_switchOn_2 : decode cP_switchOn 2 = .ok (.putfield 22, 3) := by decide +kernel
theorem dP_switchOn_5 : decode cP_switchOn 5 = .ok (.aload_n 0, 1) := by decide +kernel
theorem dP_switchOn_6 : decode cP_switchOn 6 = .ok (.iconst 0, 1) := by decide +kernel
theorem dP_switchOn_7 : decode cP_switchOn 7 = .ok (.putfield 15, 3) := by decide +kernel
theorem dP_switchOn_10 : decode cP_switchOn 10 = .ok (.return_, 1) := by decide +kernel
abbrev cV_drawingsOut : ByteArray := prog_1_method_57_code
abbrev yV_drawingsOut : MethodName := ⟨"DrawingVault", "drawingsOut", "()I"⟩
theorem dV_drawingsOut_0 : decode cV_drawingsOut 0 = .ok (.iconst 0, 1) := by decide +kernel
theorem dV_drawingsOut_1 : decode cV_drawingsOut 1 = .ok (.istore_n 1, 1) := by decide +kernel
theorem dV_drawingsOut_2 : decode cV_drawingsOut 2 = .ok (.iconst 0, 1) := by decide +kernel
theorem dV_drawingsOut_3 : decode cV_drawingsOut 3 = .ok (.istore_n 2, 1) := by decide +kernel
theorem dV_drawingsOut_4 : decode cV_drawingsOut 4 = .ok (.iload_n 2, 1) := by decide +kernel
theorem dV_drawingsOut_5 : decode cV_drawingsOut 5 = .ok (.aload_n 0, 1) := by decide +kernel
theorem dV_drawingsOut_6 : decode cV_drawingsOut 6 = .ok (.getfield 67, 3) := by decide +kernel
theorem dV_drawingsOut_9 : decode cV_drawingsOut 9 = .ok (.if_icmp .ge 25, 3) := by decide +kernel
theorem dV_drawingsOut_34 : decode cV_drawingsOut 34 = .ok (.iload_n 1, 1) := by decide +kernel
theorem dV_drawingsOut_35 : decode cV_drawingsOut 35 = .ok (.ireturn, 1) := by decide +kernel
abbrev cV_start : ByteArray := prog_1_method_23_code
abbrev yV_start : MethodName := ⟨"DrawingVault", "start", "()I"⟩
theorem dV_start_0 : decode cV_start 0 = .ok (.iconst 0, 1) := by decide +kernel
theorem dV_start_1 : decode cV_start 1 = .ok (.istore_n 1, 1) := by decide +kernel
theorem dV_start_2 : decode cV_start 2 = .ok (.iload_n 1, 1) := by decide +kernel
theorem dV_start_3 : decode cV_start 3 = .ok (.aload_n 0, 1) := by decide +kernel
theorem dV_start_4 : decode cV_start 4 = .ok (.getfield 67, 3) := by decide +kernel
theorem dV_start_7 : decode cV_start 7 = .ok (.if_icmp .ge 30, 3) := by decide +kernel
theorem dV_start_37 : decode cV_start 37 = .ok (.aload_n 0, 1) := by decide +kernel
theorem dV_start_38 : decode cV_start 38 = .ok (.getfield 40, 3) := by decide +kernel
theorem dV_start_41 : decode cV_start 41 = .ok (.invokevirtual 244, 3) := by decide +kernel
theorem dV_start_44 : decode cV_start 44 = .ok (.aload_n 0, 1) := by decide +kernel
theorem dV_start_45 : decode cV_start 45 = .ok (.invokevirtual 247, 3) := by decide +kernel
theorem dV_start_48 : decode cV_start 48 = .ok (.ireturn, 1) := by decide +kernel
abbrev cV_user : ByteArray := prog_1_method_20_code
abbrev yV_user : MethodName := ⟨"DrawingVault", "user", "(IZI)I"⟩
theorem dV_user_0 : decode cV_user 0 = .ok (.aload_n 0, 1) := by decide +kernel
theorem dV_user_1 : decode cV_user 1 = .ok (.iload_n 1, 1) := by decide +kernel
theorem dV_user_2 : decode cV_user 2 = .ok (.invokevirtual 74, 3) := by decide +kernel
theorem dV_user_5 : decode cV_user 5 = .ok (.ifnonnull 5, 3) := by decide +kernel
theorem dV_user_8 : decode cV_user 8 = .ok (.iconst (-1), 1) := by decide +kernel
theorem dV_user_9 : decode cV_user 9 = .ok (.ireturn, 1) := by decide +kernel
abbrev cK_clear : ByteArray := prog_3_method_2_code
abbrev yK_clear : MethodName := ⟨"DrawingVault$ChunkSet", "clear", "()V"⟩
theorem dK_clear_0 : decode cK_clear 0 = .ok (.aload_n 0, 1) := by decide +kernel
theorem dK_clear_1 : decode cK_clear 1 = .ok (.iconst 0, 1) := by decide +kernel
theorem dK_clear_2 : decode cK_clear 2 = .ok (.putfield 19, 3) := by decide +kernel
theorem dK_clear_5 : decode cK_clear 5 = .ok (.return_, 1) := by decide +kernel
abbrev cV_chunksOfRevisions : ByteArray := prog_1_method_59_code
abbrev yV_chunksOfRevisions : MethodName := ⟨"DrawingVault", "chunksOfRevisions", "()I"⟩
theorem dV_chunksOfRevisions_0 : decode cV_chunksOfRevisions 0 = .ok (.aload_n 0, 1) := by decide +kernel
theorem dV_chunksOfRevisions_1 : decode cV_chunksOfRevisions 1 = .ok (.getfield 33, 3) := by decide +kernel
theorem dV_chunksOfRevisions_4 : decode cV_chunksOfRevisions 4 = .ok (.invokevirtual 345, 3) := by decide +kernel
theorem dV_chunksOfRevisions_7 : decode cV_chunksOfRevisions 7 = .ok (.iconst 0, 1) := by decide +kernel
theorem dV_chunksOfRevisions_8 : decode cV_chunksOfRevisions 8 = .ok (.istore_n 1, 1) := by decide +kernel
theorem dV_chunksOfRevisions_9 : decode cV_chunksOfRevisions 9 = .ok (.iload_n 1, 1) := by decide +kernel
theorem dV_chunksOfRevisions_10 : decode cV_chunksOfRevisions 10 = .ok (.aload_n 0, 1) := by decide +kernel
theorem dV_chunksOfRevisions_11 : decode cV_chunksOfRevisions 11 = .ok (.getfield 67, 3) := by decide +kernel
theorem dV_chunksOfRevisions_14 : decode cV_chunksOfRevisions 14 = .ok (.if_icmp .ge 51, 3) := by decide +kernel
theorem dV_chunksOfRevisions_65 : decode cV_chunksOfRevisions 65 = .ok (.aload_n 0, 1) := by decide +kernel
theorem dV_chunksOfRevisions_66 : decode cV_chunksOfRevisions 66 = .ok (.getfield 33, 3) := by decide +kernel
theorem dV_chunksOfRevisions_69 : decode cV_chunksOfRevisions 69 = .ok (.getfield 349, 3) := by decide +kernel
theorem dV_chunksOfRevisions_72 : decode cV_chunksOfRevisions 72 = .ok (.ireturn, 1) := by decide +kernel
abbrev cV_chunksKept : ByteArray := prog_1_method_60_code
abbrev yV_chunksKept : MethodName := ⟨"DrawingVault", "chunksKept", "()I"⟩
theorem dV_chunksKept_0 : decode cV_chunksKept 0 = .ok (.aload_n 0, 1) := by decide +kernel
theorem dV_chunksKept_1 : decode cV_chunksKept 1 = .ok (.invokevirtual 350, 3) := by decide +kernel
theorem dV_chunksKept_4 : decode cV_chunksKept 4 = .ok (.pop, 1) := by decide +kernel
theorem dV_chunksKept_5 : decode cV_chunksKept 5 = .ok (.iconst 0, 1) := by decide +kernel
theorem dV_chunksKept_6 : decode cV_chunksKept 6 = .ok (.istore_n 1, 1) := by decide +kernel
theorem dV_chunksKept_7 : decode cV_chunksKept 7 = .ok (.iload_n 1, 1) := by decide +kernel
theorem dV_chunksKept_8 : decode cV_chunksKept 8 = .ok (.aload_n 0, 1) := by decide +kernel
theorem dV_chunksKept_9 : decode cV_chunksKept 9 = .ok (.getfield 67, 3) := by decide +kernel
theorem dV_chunksKept_12 : decode cV_chunksKept 12 = .ok (.if_icmp .ge 25, 3) := by decide +kernel
theorem dV_chunksKept_37 : decode cV_chunksKept 37 = .ok (.aload_n 0, 1) := by decide +kernel
theorem dV_chunksKept_38 : decode cV_chunksKept 38 = .ok (.getfield 33, 3) := by decide +kernel
theorem dV_chunksKept_41 : decode cV_chunksKept 41 = .ok (.getfield 349, 3) := by decide +kernel
theorem dV_chunksKept_44 : decode cV_chunksKept 44 = .ok (.ireturn, 1) := by decide +kernel
abbrev cV_baselinesMade : ByteArray := prog_1_method_58_code
abbrev yV_baselinesMade : MethodName := ⟨"DrawingVault", "baselinesMade", "()I"⟩
theorem dV_baselinesMade_0 : decode cV_baselinesMade 0 = .ok (.iconst 0, 1) := by decide +kernel
theorem dV_baselinesMade_1 : decode cV_baselinesMade 1 = .ok (.istore_n 1, 1) := by decide +kernel
theorem dV_baselinesMade_2 : decode cV_baselinesMade 2 = .ok (.iconst 0, 1) := by decide +kernel
theorem dV_baselinesMade_3 : decode cV_baselinesMade 3 = .ok (.istore_n 2, 1) := by decide +kernel
theorem dV_baselinesMade_4 : decode cV_baselinesMade 4 = .ok (.iload_n 2, 1) := by decide +kernel
theorem dV_baselinesMade_5 : decode cV_baselinesMade 5 = .ok (.bipush 10, 2) := by decide +kernel
theorem dV_baselinesMade_7 : decode cV_baselinesMade 7 = .ok (.if_icmp .ge 21, 3) := by decide +kernel
theorem dV_baselinesMade_10 : decode cV_baselinesMade 10 = .ok (.aload_n 0, 1) := by decide +kernel
theorem dV_baselinesMade_11 : decode cV_baselinesMade 11 = .ok (.getfield 21, 3) := by decide +kernel
theorem dV_baselinesMade_14 : decode cV_baselinesMade 14 = .ok (.iload_n 2, 1) := by decide +kernel
theorem dV_baselinesMade_15 : decode cV_baselinesMade 15 = .ok (.aaload, 1) := by decide +kernel
theorem dV_baselinesMade_16 : decode cV_baselinesMade 16 = .ok (.ifnull 6, 3) := by decide +kernel
theorem dV_baselinesMade_22 : decode cV_baselinesMade 22 = .ok (.iinc 2 1, 3) := by decide +kernel
theorem dV_baselinesMade_25 : decode cV_baselinesMade 25 = .ok (.goto (-21), 3) := by decide +kernel
theorem dV_baselinesMade_28 : decode cV_baselinesMade 28 = .ok (.iload_n 1, 1) := by decide +kernel
theorem dV_baselinesMade_29 : decode cV_baselinesMade 29 = .ok (.ireturn, 1) := by decide +kernel
abbrev cV_count : ByteArray := prog_1_method_24_code
abbrev yV_count : MethodName := ⟨"DrawingVault", "count", "(I)I"⟩
theorem dV_count_0 : decode cV_count 0 = .ok (.iload_n 1, 1) := by decide +kernel
theorem dV_count_1 : decode cV_count 1 = .ok (.tableswitch 107 0 7 #[47, 52, 57, 62, 70, 78, 86, 91], 47) := by decide +kernel
theorem dV_count_48 : decode cV_count 48 = .ok (.aload_n 0, 1) := by decide +kernel
theorem dV_count_49 : decode cV_count 49 = .ok (.getfield 67, 3) := by decide +kernel
theorem dV_count_52 : decode cV_count 52 = .ok (.ireturn, 1) := by decide +kernel
theorem dV_count_53 : decode cV_count 53 = .ok (.aload_n 0, 1) := by decide +kernel
theorem dV_count_54 : decode cV_count 54 = .ok (.getfield 71, 3) := by decide +kernel
theorem dV_count_57 : decode cV_count 57 = .ok (.ireturn, 1) := by decide +kernel
theorem dV_count_58 : decode cV_count 58 = .ok (.aload_n 0, 1) := by decide +kernel
theorem dV_count_59 : decode cV_count 59 = .ok (.invokevirtual 250, 3) := by decide +kernel
theorem dV_count_62 : decode cV_count 62 = .ok (.ireturn, 1) := by decide +kernel
theorem dV_count_63 : decode cV_count 63 = .ok (.aload_n 0, 1) := by decide +kernel
theorem dV_count_64 : decode cV_count 64 = .ok (.getfield 40, 3) := by decide +kernel
theorem dV_count_67 : decode cV_count 67 = .ok (.getfield 253, 3) := by decide +kernel
theorem dV_count_70 : decode cV_count 70 = .ok (.ireturn, 1) := by decide +kernel
theorem dV_count_71 : decode cV_count 71 = .ok (.aload_n 0, 1) := by decide +kernel
theorem dV_count_72 : decode cV_count 72 = .ok (.getfield 40, 3) := by decide +kernel
theorem dV_count_75 : decode cV_count 75 = .ok (.getfield 256, 3) := by decide +kernel
theorem dV_count_78 : decode cV_count 78 = .ok (.ireturn, 1) := by decide +kernel
theorem dV_count_79 : decode cV_count 79 = .ok (.aload_n 0, 1) := by decide +kernel
theorem dV_count_80 : decode cV_count 80 = .ok (.getfield 40, 3) := by decide +kernel
theorem dV_count_83 : decode cV_count 83 = .ok (.getfield 259, 3) := by decide +kernel
theorem dV_count_86 : decode cV_count 86 = .ok (.ireturn, 1) := by decide +kernel
theorem dV_count_87 : decode cV_count 87 = .ok (.aload_n 0, 1) := by decide +kernel
theorem dV_count_88 : decode cV_count 88 = .ok (.invokevirtual 262, 3) := by decide +kernel
theorem dV_count_91 : decode cV_count 91 = .ok (.ireturn, 1) := by decide +kernel
theorem dV_count_92 : decode cV_count 92 = .ok (.aload_n 0, 1) := by decide +kernel
theorem dV_count_93 : decode cV_count 93 = .ok (.getfield 40, 3) := by decide +kernel
theorem dV_count_96 : decode cV_count 96 = .ok (.getfield 230, 3) := by decide +kernel
theorem dV_count_99 : decode cV_count 99 = .ok (.ifCond .eq 7, 3) := by decide +kernel
theorem dV_count_106 : decode cV_count 106 = .ok (.iconst 0, 1) := by decide +kernel
theorem dV_count_107 : decode cV_count 107 = .ok (.ireturn, 1) := by decide +kernel
theorem dV_count_108 : decode cV_count 108 = .ok (.iconst (-1), 1) := by decide +kernel
theorem dV_count_109 : decode cV_count 109 = .ok (.ireturn, 1) := by decide +kernel
theorem wd_54 : (.fieldLink "DrawingVault$Pages" 15 "DrawingVault$Pages" "failureAhead" "Z" : Cond) ∈ aw := aw_in (tb_1 (List.mem_of_getElem? (i := 84) rfl)) rfl
theorem wd_55 : (.fieldLink "DrawingVault" 253 "DrawingVault$Pages" "free" "I" : Cond) ∈ aw := aw_in (tb_1 (List.mem_of_getElem? (i := 77) rfl)) rfl
theorem wd_56 : (.code ⟨"DrawingVault$Pages", "failsBy", "(I)Z"⟩ prog_6_method_4_code 2 (Option.some .boolean) : Cond) ∈ aw := aw_in (tb_2 (List.mem_of_getElem? (i := 84) rfl)) rfl
theorem wd_57 : (.methodLink "DrawingVault" 268 ⟨"DrawingVault$Pages", "failsBy", "(I)Z"⟩ : Cond) ∈ aw := aw_in (tb_2 (List.mem_of_getElem? (i := 81) rfl)) rfl
theorem wd_58 : (.instanceMethod ⟨"DrawingVault$Pages", "failsBy", "(I)Z"⟩ : Cond) ∈ aw := aw_in (tb_2 (List.mem_of_getElem? (i := 82) rfl)) rfl
theorem wd_59 : (.selects "DrawingVault$Pages" ⟨"DrawingVault$Pages", "failsBy", "(I)Z"⟩ ⟨"DrawingVault$Pages", "failsBy", "(I)Z"⟩ : Cond) ∈ aw := aw_in (tb_2 (List.mem_of_getElem? (i := 83) rfl)) rfl
theorem wd_60 : (.initialized "DrawingVault$Pages" : Cond) ∈ aw := aw_in (tb_1 (List.mem_of_getElem? (i := 5) rfl)) rfl
theorem wd_61 : (.code ⟨"DrawingVault", "allowed", "(I)Z"⟩ prog_1_method_26_code 2 (Option.some .boolean) : Cond) ∈ aw := aw_in (tb_2 (List.mem_of_getElem? (i := 80) rfl)) rfl
theorem wd_62 : (.methodLink "DrawingVault" 100 ⟨"DrawingVault", "allowed", "(I)Z"⟩ : Cond) ∈ aw := aw_in (tb_2 (List.mem_of_getElem? (i := 77) rfl)) rfl
theorem wd_63 : (.instanceMethod ⟨"DrawingVault", "allowed", "(I)Z"⟩ : Cond) ∈ aw := aw_in (tb_2 (List.mem_of_getElem? (i := 79) rfl)) rfl
theorem wd_64 : (.selects "DrawingVault" ⟨"DrawingVault", "allowed", "(I)Z"⟩ ⟨"DrawingVault", "allowed", "(I)Z"⟩ : Cond) ∈ aw := aw_in (tb_s (q := (⟨"DrawingVault", "allowed", "(I)Z"⟩, _)) (List.mem_append_left _ (List.mem_of_getElem? (i := 11) rfl))) rfl
theorem wd_65 : (.code ⟨"DrawingVault", "mayWrite", "(II)Z"⟩ prog_1_method_27_code 3 (Option.some .boolean) : Cond) ∈ aw := aw_in (tb_2 (List.mem_of_getElem? (i := 76) rfl)) rfl
theorem wd_66 : (.methodLink "DrawingVault" 51 ⟨"DrawingVault", "mayWrite", "(II)Z"⟩ : Cond) ∈ aw := aw_in (tb_2 (List.mem_of_getElem? (i := 73) rfl)) rfl
theorem wd_67 : (.instanceMethod ⟨"DrawingVault", "mayWrite", "(II)Z"⟩ : Cond) ∈ aw := aw_in (tb_2 (List.mem_of_getElem? (i := 75) rfl)) rfl
theorem wd_68 : (.selects "DrawingVault" ⟨"DrawingVault", "mayWrite", "(II)Z"⟩ ⟨"DrawingVault", "mayWrite", "(II)Z"⟩ : Cond) ∈ aw := aw_in (tb_s (q := (⟨"DrawingVault", "mayWrite", "(II)Z"⟩, _)) (List.mem_append_left _ (List.mem_of_getElem? (i := 10) rfl))) rfl
theorem wd_69 : (.code ⟨"DrawingVault", "needPower", "()V"⟩ prog_1_method_25_code 1 (Option.none : Option Jvm.ClassFile.FieldType) : Cond) ∈ aw := aw_in (tb_2 (List.mem_of_getElem? (i := 7) rfl)) rfl
theorem wd_70 : (.methodLink "DrawingVault" 44 ⟨"DrawingVault", "needPower", "()V"⟩ : Cond) ∈ aw := aw_in (tb_2 (List.mem_of_getElem? (i := 4) rfl)) rfl
theorem wd_71 : (.instanceMethod ⟨"DrawingVault", "needPower", "()V"⟩ : Cond) ∈ aw := aw_in (tb_2 (List.mem_of_getElem? (i := 6) rfl)) rfl
theorem wd_72 : (.selects "DrawingVault" ⟨"DrawingVault", "needPower", "()V"⟩ ⟨"DrawingVault", "needPower", "()V"⟩ : Cond) ∈ aw := aw_in (tb_s (q := (⟨"DrawingVault", "needPower", "()V"⟩, _)) (List.mem_append_left _ (List.mem_of_getElem? (i := 8) rfl))) rfl
theorem wd_73 : (.code ⟨"DrawingVault", "drawingRefusal", "(I)I"⟩ prog_1_method_30_code 3 (Option.some .int) : Cond) ∈ aw := aw_in (tb_2 (List.mem_of_getElem? (i := 119) rfl)) rfl
theorem wd_74 : (.methodLink "DrawingVault" 59 ⟨"DrawingVault", "drawingRefusal", "(I)I"⟩ : Cond) ∈ aw := aw_in (tb_2 (List.mem_of_getElem? (i := 116) rfl)) rfl
theorem wd_75 : (.instanceMethod ⟨"DrawingVault", "drawingRefusal", "(I)I"⟩ : Cond) ∈ aw := aw_in (tb_2 (List.mem_of_getElem? (i := 118) rfl)) rfl
theorem wd_76 : (.selects "DrawingVault" ⟨"DrawingVault", "drawingRefusal", "(I)I"⟩ ⟨"DrawingVault", "drawingRefusal", "(I)I"⟩ : Cond) ∈ aw := aw_in (tb_s (q := (⟨"DrawingVault", "drawingRefusal", "(I)I"⟩, _)) (List.mem_append_left _ (List.mem_of_getElem? (i := 14) rfl))) rfl
theorem wd_77 : (.code ⟨"DrawingVault", "outRefusal", "(LDrawingVault$Drawing;I)I"⟩ prog_1_method_31_code 3 (Option.some .int) : Cond) ∈ aw := aw_in (tb_2 (List.mem_of_getElem? (i := 216) rfl)) rfl
theorem wd_78 : (.methodLink "DrawingVault" 78 ⟨"DrawingVault", "outRefusal", "(LDrawingVault$Drawing;I)I"⟩ : Cond) ∈ aw := aw_in (tb_2 (List.mem_of_getElem? (i := 213) rfl)) rfl
theorem wd_79 : (.instanceMethod ⟨"DrawingVault", "outRefusal", "(LDrawingVault$Drawing;I)I"⟩ : Cond) ∈ aw := aw_in (tb_2 (List.mem_of_getElem? (i := 215) rfl)) rfl
theorem wd_80 : (.selects "DrawingVault" ⟨"DrawingVault", "outRefusal", "(LDrawingVault$Drawing;I)I"⟩ ⟨"DrawingVault", "outRefusal", "(LDrawingVault$Drawing;I)I"⟩ : Cond) ∈ aw := aw_in (tb_s (q := (⟨"DrawingVault", "outRefusal", "(LDrawingVault$Drawing;I)I"⟩, _)) (List.mem_append_right _ (List.mem_append_left _ (List.mem_of_getElem? (i := 0) rfl)))) rfl
theorem wd_81 : (.code ⟨"DrawingVault", "copyRefusal", "(LDrawingVault$Drawing;I)I"⟩ prog_1_method_32_code 3 (Option.some .int) : Cond) ∈ aw := aw_in (tb_2 (List.mem_of_getElem? (i := 231) rfl)) rfl
theorem wd_82 : (.methodLink "DrawingVault" 85 ⟨"DrawingVault", "copyRefusal", "(LDrawingVault$Drawing;I)I"⟩ : Cond) ∈ aw := aw_in (tb_2 (List.mem_of_getElem? (i := 228) rfl)) rfl
theorem wd_83 : (.instanceMethod ⟨"DrawingVault", "copyRefusal", "(LDrawingVault$Drawing;I)I"⟩ : Cond) ∈ aw := aw_in (tb_2 (List.mem_of_getElem? (i := 230) rfl)) rfl
theorem wd_84 : (.selects "DrawingVault" ⟨"DrawingVault", "copyRefusal", "(LDrawingVault$Drawing;I)I"⟩ ⟨"DrawingVault", "copyRefusal", "(LDrawingVault$Drawing;I)I"⟩ : Cond) ∈ aw := aw_in (tb_s (q := (⟨"DrawingVault", "copyRefusal", "(LDrawingVault$Drawing;I)I"⟩, _)) (List.mem_append_right _ (List.mem_append_left _ (List.mem_of_getElem? (i := 1) rfl)))) rfl
theorem wd_85 : (.code ⟨"DrawingVault", "checkRefusal", "(III)I"⟩ prog_1_method_35_code 6 (Option.some .int) : Cond) ∈ aw := aw_in (tb_3 (List.mem_of_getElem? (i := 103) rfl)) rfl
theorem wd_86 : (.methodLink "DrawingVault" 136 ⟨"DrawingVault", "checkRefusal", "(III)I"⟩ : Cond) ∈ aw := aw_in (tb_3 (List.mem_of_getElem? (i := 100) rfl)) rfl
theorem wd_87 : (.instanceMethod ⟨"DrawingVault", "checkRefusal", "(III)I"⟩ : Cond) ∈ aw := aw_in (tb_3 (List.mem_of_getElem? (i := 102) rfl)) rfl
theorem wd_88 : (.selects "DrawingVault" ⟨"DrawingVault", "checkRefusal", "(III)I"⟩ ⟨"DrawingVault", "checkRefusal", "(III)I"⟩ : Cond) ∈ aw := aw_in (tb_s (q := (⟨"DrawingVault", "checkRefusal", "(III)I"⟩, _)) (List.mem_append_right _ (List.mem_append_left _ (List.mem_of_getElem? (i := 6) rfl)))) rfl
theorem wd_89 : (.code ⟨"DrawingVault", "becomes", "(IIII)Z"⟩ prog_1_method_29_code 6 (Option.some .boolean) : Cond) ∈ aw := aw_in (tb_3 (List.mem_of_getElem? (i := 107) rfl)) rfl
theorem wd_90 : (.methodLink "DrawingVault" 140 ⟨"DrawingVault", "becomes", "(IIII)Z"⟩ : Cond) ∈ aw := aw_in (tb_3 (List.mem_of_getElem? (i := 104) rfl)) rfl
theorem wd_91 : (.instanceMethod ⟨"DrawingVault", "becomes", "(IIII)Z"⟩ : Cond) ∈ aw := aw_in (tb_3 (List.mem_of_getElem? (i := 106) rfl)) rfl
theorem wd_92 : (.selects "DrawingVault" ⟨"DrawingVault", "becomes", "(IIII)Z"⟩ ⟨"DrawingVault", "becomes", "(IIII)Z"⟩ : Cond) ∈ aw := aw_in (tb_s (q := (⟨"DrawingVault", "becomes", "(IIII)Z"⟩, _)) (List.mem_append_right _ (List.mem_append_left _ (List.mem_of_getElem? (i := 7) rfl)))) rfl
theorem wd_93 : (.code ⟨"DrawingVault", "releaseRefusal", "(III)I"⟩ prog_1_method_36_code 5 (Option.some .int) : Cond) ∈ aw := aw_in (tb_3 (List.mem_of_getElem? (i := 118) rfl)) rfl
theorem wd_94 : (.methodLink "DrawingVault" 144 ⟨"DrawingVault", "releaseRefusal", "(III)I"⟩ : Cond) ∈ aw := aw_in (tb_3 (List.mem_of_getElem? (i := 115) rfl)) rfl
theorem wd_95 : (.instanceMethod ⟨"DrawingVault", "releaseRefusal", "(III)I"⟩ : Cond) ∈ aw := aw_in (tb_3 (List.mem_of_getElem? (i := 117) rfl)) rfl
theorem wd_96 : (.selects "DrawingVault" ⟨"DrawingVault", "releaseRefusal", "(III)I"⟩ ⟨"DrawingVault", "releaseRefusal", "(III)I"⟩ : Cond) ∈ aw := aw_in (tb_s (q := (⟨"DrawingVault", "releaseRefusal", "(III)I"⟩, _)) (List.mem_append_right _ (List.mem_append_left _ (List.mem_of_getElem? (i := 8) rfl)))) rfl
theorem wd_97 : (.code ⟨"DrawingVault", "withdrawRefusal", "(III)I"⟩ prog_1_method_37_code 6 (Option.some .int) : Cond) ∈ aw := aw_in (tb_3 (List.mem_of_getElem? (i := 145) rfl)) rfl
theorem wd_98 : (.methodLink "DrawingVault" 147 ⟨"DrawingVault", "withdrawRefusal", "(III)I"⟩ : Cond) ∈ aw := aw_in (tb_3 (List.mem_of_getElem? (i := 142) rfl)) rfl
theorem wd_99 : (.instanceMethod ⟨"DrawingVault", "withdrawRefusal", "(III)I"⟩ : Cond) ∈ aw := aw_in (tb_3 (List.mem_of_getElem? (i := 144) rfl)) rfl
theorem wd_100 : (.selects "DrawingVault" ⟨"DrawingVault", "withdrawRefusal", "(III)I"⟩ ⟨"DrawingVault", "withdrawRefusal", "(III)I"⟩ : Cond) ∈ aw := aw_in (tb_s (q := (⟨"DrawingVault", "withdrawRefusal", "(III)I"⟩, _)) (List.mem_append_right _ (List.mem_append_left _ (List.mem_of_getElem? (i := 12) rfl)))) rfl
theorem wd_101 : (.fieldLink "DrawingVault$Pages" 9 "DrawingVault$Pages" "free" "I" : Cond) ∈ aw := aw_in (tb_1 (List.mem_of_getElem? (i := 76) rfl)) rfl
theorem wd_102 : (.fieldLink "DrawingVault$Pages" 25 "DrawingVault$Pages" "commands" "I" : Cond) ∈ aw := aw_in (tb_1 (List.mem_of_getElem? (i := 78) rfl)) rfl
theorem wd_103 : (.code ⟨"DrawingVault$Pages", "write", "(I)V"⟩ prog_6_method_5_code 2 (Option.none : Option Jvm.ClassFile.FieldType) : Cond) ∈ aw := aw_in (tb_2 (List.mem_of_getElem? (i := 92) rfl)) rfl
theorem wd_104 : (.methodLink "DrawingVault" 271 ⟨"DrawingVault$Pages", "write", "(I)V"⟩ : Cond) ∈ aw := aw_in (tb_2 (List.mem_of_getElem? (i := 89) rfl)) rfl
theorem wd_105 : (.instanceMethod ⟨"DrawingVault$Pages", "write", "(I)V"⟩ : Cond) ∈ aw := aw_in (tb_2 (List.mem_of_getElem? (i := 90) rfl)) rfl
theorem wd_106 : (.selects "DrawingVault$Pages" ⟨"DrawingVault$Pages", "write", "(I)V"⟩ ⟨"DrawingVault$Pages", "write", "(I)V"⟩ : Cond) ∈ aw := aw_in (tb_2 (List.mem_of_getElem? (i := 91) rfl)) rfl
theorem wd_107 : (.code ⟨"DrawingVault$Pages", "areLow", "()Z"⟩ prog_6_method_6_code 1 (Option.some .boolean) : Cond) ∈ aw := aw_in (tb_2 (List.mem_of_getElem? (i := 96) rfl)) rfl
theorem wd_108 : (.methodLink "DrawingVault" 274 ⟨"DrawingVault$Pages", "areLow", "()Z"⟩ : Cond) ∈ aw := aw_in (tb_2 (List.mem_of_getElem? (i := 93) rfl)) rfl
theorem wd_109 : (.instanceMethod ⟨"DrawingVault$Pages", "areLow", "()Z"⟩ : Cond) ∈ aw := aw_in (tb_2 (List.mem_of_getElem? (i := 94) rfl)) rfl
theorem wd_110 : (.selects "DrawingVault$Pages" ⟨"DrawingVault$Pages", "areLow", "()Z"⟩ ⟨"DrawingVault$Pages", "areLow", "()Z"⟩ : Cond) ∈ aw := aw_in (tb_2 (List.mem_of_getElem? (i := 95) rfl)) rfl
theorem wd_111 : (.code ⟨"DrawingVault", "finish", "(I)V"⟩ prog_1_method_28_code 3 (Option.none : Option Jvm.ClassFile.FieldType) : Cond) ∈ aw := aw_in (tb_2 (List.mem_of_getElem? (i := 88) rfl)) rfl
theorem wd_112 : (.methodLink "DrawingVault" 55 ⟨"DrawingVault", "finish", "(I)V"⟩ : Cond) ∈ aw := aw_in (tb_2 (List.mem_of_getElem? (i := 85) rfl)) rfl
theorem wd_113 : (.instanceMethod ⟨"DrawingVault", "finish", "(I)V"⟩ : Cond) ∈ aw := aw_in (tb_2 (List.mem_of_getElem? (i := 87) rfl)) rfl
theorem wd_114 : (.selects "DrawingVault" ⟨"DrawingVault", "finish", "(I)V"⟩ ⟨"DrawingVault", "finish", "(I)V"⟩ : Cond) ∈ aw := aw_in (tb_s (q := (⟨"DrawingVault", "finish", "(I)V"⟩, _)) (List.mem_append_left _ (List.mem_of_getElem? (i := 12) rfl))) rfl
theorem wd_115 : (.fieldLink "DrawingVault$Pages" 19 "DrawingVault$Pages" "beforeFailure" "I" : Cond) ∈ aw := aw_in (tb_1 (List.mem_of_getElem? (i := 85) rfl)) rfl
theorem wd_116 : (.code ⟨"DrawingVault$Pages", "failAhead", "(I)V"⟩ prog_6_method_2_code 2 (Option.none : Option Jvm.ClassFile.FieldType) : Cond) ∈ aw := aw_in (tb_1 (List.mem_of_getElem? (i := 174) rfl)) rfl
theorem wd_117 : (.methodLink "DrawingVault" 234 ⟨"DrawingVault$Pages", "failAhead", "(I)V"⟩ : Cond) ∈ aw := aw_in (tb_1 (List.mem_of_getElem? (i := 171) rfl)) rfl
theorem wd_118 : (.instanceMethod ⟨"DrawingVault$Pages", "failAhead", "(I)V"⟩ : Cond) ∈ aw := aw_in (tb_1 (List.mem_of_getElem? (i := 172) rfl)) rfl
theorem wd_119 : (.selects "DrawingVault$Pages" ⟨"DrawingVault$Pages", "failAhead", "(I)V"⟩ ⟨"DrawingVault$Pages", "failAhead", "(I)V"⟩ : Cond) ∈ aw := aw_in (tb_1 (List.mem_of_getElem? (i := 173) rfl)) rfl
theorem wd_120 : (.fieldLink "DrawingVault$Pages" 22 "DrawingVault$Pages" "failed" "Z" : Cond) ∈ aw := aw_in (tb_1 (List.mem_of_getElem? (i := 82) rfl)) rfl
theorem wd_121 : (.code ⟨"DrawingVault$Pages", "switchOn", "()V"⟩ prog_6_method_3_code 1 (Option.none : Option Jvm.ClassFile.FieldType) : Cond) ∈ aw := aw_in (tb_1 (List.mem_of_getElem? (i := 189) rfl)) rfl
theorem wd_122 : (.methodLink "DrawingVault" 244 ⟨"DrawingVault$Pages", "switchOn", "()V"⟩ : Cond) ∈ aw := aw_in (tb_1 (List.mem_of_getElem? (i := 186) rfl)) rfl
theorem wd_123 : (.instanceMethod ⟨"DrawingVault$Pages", "switchOn", "()V"⟩ : Cond) ∈ aw := aw_in (tb_1 (List.mem_of_getElem? (i := 187) rfl)) rfl
theorem wd_124 : (.selects "DrawingVault$Pages" ⟨"DrawingVault$Pages", "switchOn", "()V"⟩ ⟨"DrawingVault$Pages", "switchOn", "()V"⟩ : Cond) ∈ aw := aw_in (tb_1 (List.mem_of_getElem? (i := 188) rfl)) rfl
theorem wd_125 : (.code ⟨"DrawingVault", "drawingsOut", "()I"⟩ prog_1_method_57_code 3 (Option.some .int) : Cond) ∈ aw := aw_in (tb_1 (List.mem_of_getElem? (i := 193) rfl)) rfl
theorem wd_126 : (.methodLink "DrawingVault" 247 ⟨"DrawingVault", "drawingsOut", "()I"⟩ : Cond) ∈ aw := aw_in (tb_1 (List.mem_of_getElem? (i := 190) rfl)) rfl
theorem wd_127 : (.instanceMethod ⟨"DrawingVault", "drawingsOut", "()I"⟩ : Cond) ∈ aw := aw_in (tb_1 (List.mem_of_getElem? (i := 192) rfl)) rfl
theorem wd_128 : (.selects "DrawingVault" ⟨"DrawingVault", "drawingsOut", "()I"⟩ ⟨"DrawingVault", "drawingsOut", "()I"⟩ : Cond) ∈ aw := aw_in (tb_s (q := (⟨"DrawingVault", "drawingsOut", "()I"⟩, _)) (List.mem_append_left _ (List.mem_of_getElem? (i := 3) rfl))) rfl
theorem wd_129 : (.fieldLink "DrawingVault$ChunkSet" 19 "DrawingVault$ChunkSet" "size" "I" : Cond) ∈ aw := aw_in (tb_1 (List.mem_of_getElem? (i := 59) rfl)) rfl
theorem wd_130 : (.fieldLink "DrawingVault" 33 "DrawingVault" "chunks" "LDrawingVault$ChunkSet;" : Cond) ∈ aw := aw_in (tb_1 (List.mem_of_getElem? (i := 105) rfl)) rfl
theorem wd_131 : (.code ⟨"DrawingVault$ChunkSet", "clear", "()V"⟩ prog_3_method_2_code 1 (Option.none : Option Jvm.ClassFile.FieldType) : Cond) ∈ aw := aw_in (tb_1 (List.mem_of_getElem? (i := 209) rfl)) rfl
theorem wd_132 : (.methodLink "DrawingVault" 345 ⟨"DrawingVault$ChunkSet", "clear", "()V"⟩ : Cond) ∈ aw := aw_in (tb_1 (List.mem_of_getElem? (i := 206) rfl)) rfl
theorem wd_133 : (.instanceMethod ⟨"DrawingVault$ChunkSet", "clear", "()V"⟩ : Cond) ∈ aw := aw_in (tb_1 (List.mem_of_getElem? (i := 207) rfl)) rfl
theorem wd_134 : (.selects "DrawingVault$ChunkSet" ⟨"DrawingVault$ChunkSet", "clear", "()V"⟩ ⟨"DrawingVault$ChunkSet", "clear", "()V"⟩ : Cond) ∈ aw := aw_in (tb_1 (List.mem_of_getElem? (i := 208) rfl)) rfl
theorem wd_135 : (.initialized "DrawingVault$ChunkSet" : Cond) ∈ aw := aw_in (tb_1 (List.mem_of_getElem? (i := 4) rfl)) rfl
theorem wd_136 : (.fieldLink "DrawingVault" 349 "DrawingVault$ChunkSet" "size" "I" : Cond) ∈ aw := aw_in (tb_1 (List.mem_of_getElem? (i := 60) rfl)) rfl
theorem wd_137 : (.code ⟨"DrawingVault", "chunksOfRevisions", "()I"⟩ prog_1_method_59_code 3 (Option.some .int) : Cond) ∈ aw := aw_in (tb_1 (List.mem_of_getElem? (i := 205) rfl)) rfl
theorem wd_138 : (.methodLink "DrawingVault" 350 ⟨"DrawingVault", "chunksOfRevisions", "()I"⟩ : Cond) ∈ aw := aw_in (tb_1 (List.mem_of_getElem? (i := 202) rfl)) rfl
theorem wd_139 : (.instanceMethod ⟨"DrawingVault", "chunksOfRevisions", "()I"⟩ : Cond) ∈ aw := aw_in (tb_1 (List.mem_of_getElem? (i := 204) rfl)) rfl
theorem wd_140 : (.selects "DrawingVault" ⟨"DrawingVault", "chunksOfRevisions", "()I"⟩ ⟨"DrawingVault", "chunksOfRevisions", "()I"⟩ : Cond) ∈ aw := aw_in (tb_s (q := (⟨"DrawingVault", "chunksOfRevisions", "()I"⟩, _)) (List.mem_append_left _ (List.mem_of_getElem? (i := 5) rfl))) rfl
theorem wd_141 : (.fieldLink "DrawingVault" 71 "DrawingVault" "revisionCount" "I" : Cond) ∈ aw := aw_in (tb_1 (List.mem_of_getElem? (i := 102) rfl)) rfl
theorem wd_142 : (.code ⟨"DrawingVault", "chunksKept", "()I"⟩ prog_1_method_60_code 2 (Option.some .int) : Cond) ∈ aw := aw_in (tb_1 (List.mem_of_getElem? (i := 201) rfl)) rfl
theorem wd_143 : (.methodLink "DrawingVault" 250 ⟨"DrawingVault", "chunksKept", "()I"⟩ : Cond) ∈ aw := aw_in (tb_1 (List.mem_of_getElem? (i := 198) rfl)) rfl
theorem wd_144 : (.instanceMethod ⟨"DrawingVault", "chunksKept", "()I"⟩ : Cond) ∈ aw := aw_in (tb_1 (List.mem_of_getElem? (i := 200) rfl)) rfl
theorem wd_145 : (.selects "DrawingVault" ⟨"DrawingVault", "chunksKept", "()I"⟩ ⟨"DrawingVault", "chunksKept", "()I"⟩ : Cond) ∈ aw := aw_in (tb_s (q := (⟨"DrawingVault", "chunksKept", "()I"⟩, _)) (List.mem_append_left _ (List.mem_of_getElem? (i := 4) rfl))) rfl
theorem wd_146 : (.fieldLink "DrawingVault" 256 "DrawingVault$Pages" "commands" "I" : Cond) ∈ aw := aw_in (tb_1 (List.mem_of_getElem? (i := 79) rfl)) rfl
theorem wd_147 : (.fieldLink "DrawingVault" 259 "DrawingVault$Pages" "copiedForward" "I" : Cond) ∈ aw := aw_in (tb_1 (List.mem_of_getElem? (i := 81) rfl)) rfl
theorem wd_148 : (.code ⟨"DrawingVault", "baselinesMade", "()I"⟩ prog_1_method_58_code 3 (Option.some .int) : Cond) ∈ aw := aw_in (tb_1 (List.mem_of_getElem? (i := 235) rfl)) rfl
theorem wd_149 : (.methodLink "DrawingVault" 262 ⟨"DrawingVault", "baselinesMade", "()I"⟩ : Cond) ∈ aw := aw_in (tb_1 (List.mem_of_getElem? (i := 232) rfl)) rfl
theorem wd_150 : (.instanceMethod ⟨"DrawingVault", "baselinesMade", "()I"⟩ : Cond) ∈ aw := aw_in (tb_1 (List.mem_of_getElem? (i := 234) rfl)) rfl
theorem wd_151 : (.selects "DrawingVault" ⟨"DrawingVault", "baselinesMade", "()I"⟩ ⟨"DrawingVault", "baselinesMade", "()I"⟩ : Cond) ∈ aw := aw_in (tb_s (q := (⟨"DrawingVault", "baselinesMade", "()I"⟩, _)) (List.mem_append_left _ (List.mem_of_getElem? (i := 7) rfl))) rfl

set_option maxHeartbeats 4000000 in
set_option maxRecDepth 100000 in
theorem v_allowed0 (l : Launch) (dC : Nat → ClassId) (dI : Nat → Nat → Nat) (sz : Nat) (x : Nat) (rt : Nat) (dr : Nat) (bs : Nat) (df : Nat) (ch : Nat) (pg : Nat) (rs : Int32) : Met l yV_allowed (.code yV_allowed cV_allowed 2 (some .boolean) :: aw) ({ frames := 0, cells := 0, slots := 0, locals := 0 }) (pW (dC, dI) sz [(x, .inr (0, [.ref rt, .ref dr, .int 0, .int 0, .ref bs, .ref df, .ref ch, .ref pg, .int rs]))] [] [.ref x, .int 0]) (va_Qi (fun r (_ : Unit) => r = 1) (fun _ t => wW (dC, dI) (va_A [(x, .inr (0, [.ref rt, .ref dr, .int 0, .int 0, .ref bs, .ref df, .ref ch, .ref pg, .int rs]))] sz) [(x, .inr (0, [.ref rt, .ref dr, .int 0, .int 0, .ref bs, .ref df, .ref ch, .ref pg, .int 0]))] [] t) (va_A [(x, .inr (0, [.ref rt, .ref dr, .int 0, .int 0, .ref bs, .ref df, .ref ch, .ref pg, .int rs]))] sz)) 0 0 (va_A [(x, .inr (0, [.ref rt, .ref dr, .int 0, .int 0, .ref bs, .ref df, .ref ch, .ref pg, .int rs]))] sz) := by
  refine Met.ofW (cc := cV_allowed) (maxL := 2) (ret := (some .boolean)) (by decide) rfl ?_
  intro p e s m args below meth c s₁ B hml hv
  obtain ⟨rfl, hv⟩ := hv
  have hx := B.exec
  have hb := B.bytes
  have hr := B.returns
  have hts : ∀ w ∈ aw, w.before _ s = true := fun w h => atoms_spec (ws := (.code yV_allowed cV_allowed 2 (some .boolean) :: aw)) B.pre w (List.mem_cons_of_mem _ h)
  have hown : s.vm.findClass RV = some m.cls := findClass_of_methodNamed B.named
  have hlocks := B.notSynchronized
  obtain ⟨hsz, hP, hK, hD0⟩ := hv
  subst hsz
  have hD := hD0.self (sz := s.heap.size)
  generalize hAe : va_A [(x, .inr (0, [.ref rt, .ref dr, .int 0, .int 0, .ref bs, .ref df, .ref ch, .ref pg, .int rs]))] s.heap.size = A at hD ⊢
  have hA : ∀ q : Nat, s.heap.size ≤ q → A q := fun q h => by rw [← hAe]; exact Or.inr h
  obtain ⟨H, hH⟩ : ∃ H, H = s.heap := ⟨_, rfl⟩
  have hS : va_S A s.heap H [] := by rw [hH]; exact va_S.rf
  rw [← hH] at hP ⊢
  have hP : va_P (dC, dI) kCl [(x, .inr (0, [.ref rt, .ref dr, .int 0, .int 0, .ref bs, .ref df, .ref ch, .ref pg, .int rs]))] H := hP
  have hl := lv_entry ([.ref x, .int 0]) (n := 2) (Nat.le_of_ble_eq_true rfl)
  rw [lg_entry_eq]
  generalize (lg_sl ([.ref x, .int 0]) ++ List.replicate (2 - (lg_sl ([.ref x, .int 0])).length) Slot.unset).toArray = ls at hl ⊢
  have hl : lv_has ls 2 [(0, .ref x), (1, .int 0)] := hl
  refine lv_aload_n (pc := 0) hx hb dV_allowed_0 rfl (lv_at hl 0 rfl) ?_
  refine lv_iload_n (pc := 1) hx hb dV_allowed_1 rfl (lv_at hl 1 rfl) ?_
  refine va_put (D := (dC, dI)) (cl := kCl) (ci := 0) (v := .int 0) (ty := .int) (C := RV) (T := TV) (N := 9) (pc := 2) hx hb hts inV tyV tyV_ok nmV hown hK hP hD hS 0 rfl rfl 8 (by decide) (hts _ wd_53) (fun _ h9 => h9) rfl (by decide +kernel) rfl rfl (Nat.le_of_ble_eq_true rfl) dV_allowed_2 (fun H locs hP hD hS => ?_)
  have hP : va_P (dC, dI) kCl [(x, .inr (0, [.ref rt, .ref dr, .int 0, .int 0, .ref bs, .ref df, .ref ch, .ref pg, .int 0]))] H := hP
  have hD : va_D A [(x, .inr (0, [.ref rt, .ref dr, .int 0, .int 0, .ref bs, .ref df, .ref ch, .ref pg, .int 0]))] := hD
  refine lv_iload_n (pc := 5) hx hb dV_allowed_5 rfl (lv_at hl 1 rfl) ?_
  refine lv_if_ne (pc := 6) (tgt := 13) hx hb dV_allowed_6 rfl (fun h1 => absurd h1 (by decide)) (fun h1 => ?_)
  refine lv_iconst (pc := 9) (v := 1) hx hb dV_allowed_9 (by decide) ?_
  refine lv_goto (pc := 10) (tgt := 14) hx hb dV_allowed_10 rfl ?_
  have hP9 := hP.sub (ws' := [(x, .inr (0, [.ref rt, .ref dr, .int 0, .int 0, .ref bs, .ref df, .ref ch, .ref pg, .int 0]))]) [0] rfl
  have hD9 := hD.sub (ws' := [(x, .inr (0, [.ref rt, .ref dr, .int 0, .int 0, .ref bs, .ref df, .ref ch, .ref pg, .int 0]))]) [0] (by decide) rfl
  have hK9 := hK.sub (tys' := []) [] rfl
  exact W.zret (pc := 14) hx hb hr rfl (fun t ht hW => ⟨⟨_, (), rfl, rfl, by rw [ht]; exact hP9, va_K.moved hW.alike hK9, hD9⟩, hS.F ht⟩) hS.2.2 dV_allowed_14
set_option maxHeartbeats 4000000 in
set_option maxRecDepth 100000 in
theorem v_allowed (l : Launch) (dC : Nat → ClassId) (dI : Nat → Nat → Nat) (sz : Nat) (x : Nat) (rt : Nat) (dr : Nat) (bs : Nat) (df : Nat) (ch : Nat) (pg : Nat) (rs : Int32) (rf : Int32) (hf : ¬ rf = 0) : Met l yV_allowed (.code yV_allowed cV_allowed 2 (some .boolean) :: aw) ({ frames := 0, cells := 0, slots := 0, locals := 0 }) (pW (dC, dI) sz [(x, .inr (0, [.ref rt, .ref dr, .int 0, .int 0, .ref bs, .ref df, .ref ch, .ref pg, .int rs]))] [] [.ref x, .int rf]) (va_Qi (fun r (_ : Unit) => r = 0) (fun _ t => wW (dC, dI) (va_A [(x, .inr (0, [.ref rt, .ref dr, .int 0, .int 0, .ref bs, .ref df, .ref ch, .ref pg, .int rs]))] sz) [(x, .inr (0, [.ref rt, .ref dr, .int 0, .int 0, .ref bs, .ref df, .ref ch, .ref pg, .int rf]))] [] t) (va_A [(x, .inr (0, [.ref rt, .ref dr, .int 0, .int 0, .ref bs, .ref df, .ref ch, .ref pg, .int rs]))] sz)) 0 0 (va_A [(x, .inr (0, [.ref rt, .ref dr, .int 0, .int 0, .ref bs, .ref df, .ref ch, .ref pg, .int rs]))] sz) := by
  refine Met.ofW (cc := cV_allowed) (maxL := 2) (ret := (some .boolean)) (by decide) rfl ?_
  intro p e s m args below meth c s₁ B hml hv
  obtain ⟨rfl, hv⟩ := hv
  have hx := B.exec
  have hb := B.bytes
  have hr := B.returns
  have hts : ∀ w ∈ aw, w.before _ s = true := fun w h => atoms_spec (ws := (.code yV_allowed cV_allowed 2 (some .boolean) :: aw)) B.pre w (List.mem_cons_of_mem _ h)
  have hown : s.vm.findClass RV = some m.cls := findClass_of_methodNamed B.named
  have hlocks := B.notSynchronized
  obtain ⟨hsz, hP, hK, hD0⟩ := hv
  subst hsz
  have hD := hD0.self (sz := s.heap.size)
  generalize hAe : va_A [(x, .inr (0, [.ref rt, .ref dr, .int 0, .int 0, .ref bs, .ref df, .ref ch, .ref pg, .int rs]))] s.heap.size = A at hD ⊢
  have hA : ∀ q : Nat, s.heap.size ≤ q → A q := fun q h => by rw [← hAe]; exact Or.inr h
  obtain ⟨H, hH⟩ : ∃ H, H = s.heap := ⟨_, rfl⟩
  have hS : va_S A s.heap H [] := by rw [hH]; exact va_S.rf
  rw [← hH] at hP ⊢
  have hP : va_P (dC, dI) kCl [(x, .inr (0, [.ref rt, .ref dr, .int 0, .int 0, .ref bs, .ref df, .ref ch, .ref pg, .int rs]))] H := hP
  have hl := lv_entry ([.ref x, .int rf]) (n := 2) (Nat.le_of_ble_eq_true rfl)
  rw [lg_entry_eq]
  generalize (lg_sl ([.ref x, .int rf]) ++ List.replicate (2 - (lg_sl ([.ref x, .int rf])).length) Slot.unset).toArray = ls at hl ⊢
  have hl : lv_has ls 2 [(0, .ref x), (1, .int rf)] := hl
  refine lv_aload_n (pc := 0) hx hb dV_allowed_0 rfl (lv_at hl 0 rfl) ?_
  refine lv_iload_n (pc := 1) hx hb dV_allowed_1 rfl (lv_at hl 1 rfl) ?_
  refine va_put (D := (dC, dI)) (cl := kCl) (ci := 0) (v := .int rf) (ty := .int) (C := RV) (T := TV) (N := 9) (pc := 2) hx hb hts inV tyV tyV_ok nmV hown hK hP hD hS 0 rfl rfl 8 (by decide) (hts _ wd_53) (fun _ h9 => h9) rfl (by decide +kernel) rfl rfl (Nat.le_of_ble_eq_true rfl) dV_allowed_2 (fun H locs hP hD hS => ?_)
  have hP : va_P (dC, dI) kCl [(x, .inr (0, [.ref rt, .ref dr, .int 0, .int 0, .ref bs, .ref df, .ref ch, .ref pg, .int rf]))] H := hP
  have hD : va_D A [(x, .inr (0, [.ref rt, .ref dr, .int 0, .int 0, .ref bs, .ref df, .ref ch, .ref pg, .int rf]))] := hD
  refine lv_iload_n (pc := 5) hx hb dV_allowed_5 rfl (lv_at hl 1 rfl) ?_
  refine lv_if_ne (pc := 6) (tgt := 13) hx hb dV_allowed_6 rfl (fun h1 => ?_) (fun h1 => absurd h1 hf)
  refine lv_iconst (pc := 13) (v := 0) hx hb dV_allowed_13 (by decide) ?_
  have hP9 := hP.sub (ws' := [(x, .inr (0, [.ref rt, .ref dr, .int 0, .int 0, .ref bs, .ref df, .ref ch, .ref pg, .int rf]))]) [0] rfl
  have hD9 := hD.sub (ws' := [(x, .inr (0, [.ref rt, .ref dr, .int 0, .int 0, .ref bs, .ref df, .ref ch, .ref pg, .int rf]))]) [0] (by decide) rfl
  have hK9 := hK.sub (tys' := []) [] rfl
  exact W.zret (pc := 14) hx hb hr rfl (fun t ht hW => ⟨⟨_, (), rfl, rfl, by rw [ht]; exact hP9, va_K.moved hW.alike hK9, hD9⟩, hS.F ht⟩) hS.2.2 dV_allowed_14
set_option maxHeartbeats 4000000 in
set_option maxRecDepth 100000 in
theorem p_failsBy (l : Launch) (dC : Nat → ClassId) (dI : Nat → Nat → Nat) (pg : Nat) (kk : Int32) (fr : Int32) (cm : Int32) : Met l yP_failsBy (.code yP_failsBy cP_failsBy 2 (some .boolean) :: aw) ({ frames := 0, cells := 0, slots := 0, locals := 0 }) (pR (dC, dI) [(pg, .inr (3, [.int fr, .int cm, .int 0, .int 0, .int 0, .int 0]))] [] [.ref pg, .int kk]) (vp_Si (fun r => r = 0)) 0 0 (fun _ => False) := by
  refine Met.ofW (cc := cP_failsBy) (maxL := 2) (ret := (some .boolean)) (by decide) rfl ?_
  intro p e s m args below meth c s₁ B hml hv
  obtain ⟨rfl, hv⟩ := hv
  have hx := B.exec
  have hb := B.bytes
  have hr := B.returns
  have hts : ∀ w ∈ aw, w.before _ s = true := fun w h => atoms_spec (ws := (.code yP_failsBy cP_failsBy 2 (some .boolean) :: aw)) B.pre w (List.mem_cons_of_mem _ h)
  have hown : s.vm.findClass RP = some m.cls := findClass_of_methodNamed B.named
  have hlocks := B.notSynchronized
  obtain ⟨hP, hK⟩ := hv
  obtain ⟨H, hH⟩ : ∃ H, H = s.heap := ⟨_, rfl⟩
  rw [← hH] at hP ⊢
  have hl := lv_entry ([.ref pg, .int kk]) (n := 2) (Nat.le_of_ble_eq_true rfl)
  rw [lg_entry_eq]
  generalize (lg_sl ([.ref pg, .int kk]) ++ List.replicate (2 - (lg_sl ([.ref pg, .int kk])).length) Slot.unset).toArray = ls at hl ⊢
  have hl : lv_has ls 2 [(0, .ref pg), (1, .int kk)] := hl
  refine lv_aload_n (pc := 0) hx hb dP_failsBy_0 rfl (lv_at hl 0 rfl) ?_
  refine va_get (D := (dC, dI)) (cl := kCl) (C := RP) (T := TP) (N := 6) (pc := 1) hx hb hts inP hown hK hP 0 rfl rfl 4 (by decide) (hts _ wd_54) (fun _ h9 => h9) rfl dP_failsBy_1 ?_
  refine lv_if_eq (pc := 4) (tgt := 19) hx hb dP_failsBy_4 rfl (fun h1 => ?_) (fun h1 => absurd h1 (by decide))
  refine lv_iconst (pc := 19) (v := 0) hx hb dP_failsBy_19 (by decide) ?_
  exact W.zret (pc := 20) hx hb hr rfl (fun t ht hW => ⟨_, rfl, rfl, ht.trans hH⟩) (fun q h => nomatch h) dP_failsBy_20
set_option maxHeartbeats 4000000 in
set_option maxRecDepth 100000 in
theorem v_mayWrite1 (l : Launch) (dC : Nat → ClassId) (dI : Nat → Nat → Nat) (sz : Nat) (x : Nat) (rt : Nat) (dr : Nat) (bs : Nat) (df : Nat) (ch : Nat) (pg : Nat) (rs : Int32) : Met l yV_mayWrite (.code yV_mayWrite cV_mayWrite 3 (some .boolean) :: aw) ({ frames := 1, cells := 0, slots := 0, locals := 21 }) (pW (dC, dI) sz [(x, .inr (0, [.ref rt, .ref dr, .int 0, .int 0, .ref bs, .ref df, .ref ch, .ref pg, .int rs])), (pg, .inr (3, [.int 400, .int 0, .int 0, .int 0, .int 0, .int 0]))] [] [.ref x, .int 0, .int 1]) (va_Qi (fun r (_ : Unit) => r = 1) (fun _ t => wW (dC, dI) (va_A [(x, .inr (0, [.ref rt, .ref dr, .int 0, .int 0, .ref bs, .ref df, .ref ch, .ref pg, .int rs])), (pg, .inr (3, [.int 400, .int 0, .int 0, .int 0, .int 0, .int 0]))] sz) [(x, .inr (0, [.ref rt, .ref dr, .int 0, .int 0, .ref bs, .ref df, .ref ch, .ref pg, .int 0])), (pg, .inr (3, [.int 400, .int 0, .int 0, .int 0, .int 0, .int 0]))] [] t) (va_A [(x, .inr (0, [.ref rt, .ref dr, .int 0, .int 0, .ref bs, .ref df, .ref ch, .ref pg, .int rs])), (pg, .inr (3, [.int 400, .int 0, .int 0, .int 0, .int 0, .int 0]))] sz)) 0 0 (va_A [(x, .inr (0, [.ref rt, .ref dr, .int 0, .int 0, .ref bs, .ref df, .ref ch, .ref pg, .int rs])), (pg, .inr (3, [.int 400, .int 0, .int 0, .int 0, .int 0, .int 0]))] sz) := by
  refine Met.ofW (cc := cV_mayWrite) (maxL := 3) (ret := (some .boolean)) (by decide) rfl ?_
  intro p e s m args below meth c s₁ B hml hv
  obtain ⟨rfl, hv⟩ := hv
  have hx := B.exec
  have hb := B.bytes
  have hr := B.returns
  have hts : ∀ w ∈ aw, w.before _ s = true := fun w h => atoms_spec (ws := (.code yV_mayWrite cV_mayWrite 3 (some .boolean) :: aw)) B.pre w (List.mem_cons_of_mem _ h)
  have hown : s.vm.findClass RV = some m.cls := findClass_of_methodNamed B.named
  have hlocks := B.notSynchronized
  obtain ⟨hsz, hP, hK, hD0⟩ := hv
  subst hsz
  have hD := hD0.self (sz := s.heap.size)
  generalize hAe : va_A [(x, .inr (0, [.ref rt, .ref dr, .int 0, .int 0, .ref bs, .ref df, .ref ch, .ref pg, .int rs])), (pg, .inr (3, [.int 400, .int 0, .int 0, .int 0, .int 0, .int 0]))] s.heap.size = A at hD ⊢
  have hA : ∀ q : Nat, s.heap.size ≤ q → A q := fun q h => by rw [← hAe]; exact Or.inr h
  obtain ⟨H, hH⟩ : ∃ H, H = s.heap := ⟨_, rfl⟩
  have hS : va_S A s.heap H [] := by rw [hH]; exact va_S.rf
  rw [← hH] at hP ⊢
  have hP : va_P (dC, dI) kCl [(x, .inr (0, [.ref rt, .ref dr, .int 0, .int 0, .ref bs, .ref df, .ref ch, .ref pg, .int rs])), (pg, .inr (3, [.int 400, .int 0, .int 0, .int 0, .int 0, .int 0]))] H := hP
  have hl := lv_entry ([.ref x, .int 0, .int 1]) (n := 3) (Nat.le_of_ble_eq_true rfl)
  rw [lg_entry_eq]
  generalize (lg_sl ([.ref x, .int 0, .int 1]) ++ List.replicate (3 - (lg_sl ([.ref x, .int 0, .int 1])).length) Slot.unset).toArray = ls at hl ⊢
  have hl : lv_has ls 3 [(0, .ref x), (1, .int 0), (2, .int 1)] := hl
  refine lv_iload_n (pc := 0) hx hb dV_mayWrite_0 rfl (lv_at hl 1 rfl) ?_
  refine lv_if_ne (pc := 1) (tgt := 22) hx hb dV_mayWrite_1 rfl (fun h1 => absurd h1 (by decide)) (fun h1 => ?_)
  refine lv_iload_n (pc := 4) hx hb dV_mayWrite_4 rfl (lv_at hl 2 rfl) ?_
  refine lv_aload_n (pc := 5) hx hb dV_mayWrite_5 rfl (lv_at hl 0 rfl) ?_
  refine va_get (D := (dC, dI)) (cl := kCl) (C := RV) (T := TV) (N := 9) (pc := 6) hx hb hts inV hown hK hP 0 rfl rfl 7 (by decide) (hts _ wd_37) (fun _ h9 => h9) rfl dV_mayWrite_6 ?_
  refine va_get (D := (dC, dI)) (cl := kCl) (C := RP) (T := TP) (N := 6) (pc := 9) hx hb hts inP hown hK hP 1 rfl rfl 0 (by decide) (hts _ wd_55) (fun _ h9 => h9) rfl dV_mayWrite_9 ?_
  refine lv_icmp_le (pc := 12) (tgt := 22) hx hb dV_mayWrite_12 rfl (fun h2 => ?_) (fun h2 => absurd h2 (by decide))
  refine lv_iload_n (pc := 22) hx hb dV_mayWrite_22 rfl (lv_at hl 1 rfl) ?_
  refine lv_if_ne (pc := 23) (tgt := 53) hx hb dV_mayWrite_23 rfl (fun h3 => absurd h3 (by decide)) (fun h3 => ?_)
  refine lv_aload_n (pc := 26) hx hb dV_mayWrite_26 rfl (lv_at hl 0 rfl) ?_
  refine va_get (D := (dC, dI)) (cl := kCl) (C := RV) (T := TV) (N := 9) (pc := 27) hx hb hts inV hown hK hP 0 rfl rfl 7 (by decide) (hts _ wd_37) (fun _ h9 => h9) rfl dV_mayWrite_27 ?_
  refine lv_iload_n (pc := 30) hx hb dV_mayWrite_30 rfl (lv_at hl 2 rfl) ?_
  refine vp_callSi (pc := 31) (W.runV (As := [.int 1]) (rest := []) ⟨hx, hb, hml, hown, hts⟩ (p_failsBy l dC dI pg 1 400 0) (cwV 1 hts (gV wd_57 wd_58 wd_59 wd_60 wd_56) rfl rfl rfl (by decide +kernel) ⟨Nat.le_of_ble_eq_true rfl, Nat.le_of_ble_eq_true rfl⟩) ⟨pR_blind, va_recv (q := (RP, TP, 6)) (q0 := 1) (ci := 3) hK hP rfl rfl, pR_pre (hP.sub (ws' := [(pg, .inr (3, [.int 400, .int 0, .int 0, .int 0, .int 0, .int 0]))]) [1] rfl) (hK.sub (tys' := []) [] rfl)⟩ rfl rfl hl.1 rfl (lv_room (Nat.le_of_ble_eq_true rfl)) dV_mayWrite_31 ⟨Nat.le_of_ble_eq_true rfl, Nat.le_of_ble_eq_true rfl⟩) (fun r4 hr5 => ?_)
  obtain rfl : r4 = 0 := hr5
  refine lv_if_eq (pc := 34) (tgt := 53) hx hb dV_mayWrite_34 rfl (fun h6 => ?_) (fun h6 => absurd h6 (by decide))
  refine lv_aload_n (pc := 53) hx hb dV_mayWrite_53 rfl (lv_at hl 0 rfl) ?_
  refine lv_iload_n (pc := 54) hx hb dV_mayWrite_54 rfl (lv_at hl 1 rfl) ?_
  have hPc := hP.sub (ws' := [(x, .inr (0, [.ref rt, .ref dr, .int 0, .int 0, .ref bs, .ref df, .ref ch, .ref pg, .int rs]))]) [0] rfl
  have hDc := hD.sub (ws' := [(x, .inr (0, [.ref rt, .ref dr, .int 0, .int 0, .ref bs, .ref df, .ref ch, .ref pg, .int rs]))]) [0] (by decide) rfl
  have hKc := hK.sub (tys' := []) [] rfl
  have hFc := va_free (wc := [(x, .inr (0, [.ref rt, .ref dr, .int 0, .int 0, .ref bs, .ref df, .ref ch, .ref pg, .int rs]))]) hD hS hA [0] rfl
  refine va_calli (pc := 55) (va_runV (As := [.int 0]) (rest := []) ⟨hx, hb, hml, hown, hts⟩ (v_allowed0 l dC dI H.size x rt dr bs df ch pg rs) (cwV 1 hts (gV wd_62 wd_63 wd_64 wd_35 wd_61) rfl rfl rfl (by decide +kernel) ⟨Nat.le_of_ble_eq_true rfl, Nat.le_of_ble_eq_true rfl⟩) ⟨pW_blind, va_recv (q := (RV, TV, 9)) (q0 := 0) (ci := 0) hK hP rfl rfl, pW_pre hPc hKc hDc⟩ rfl rfl hl.1 rfl (lv_room (Nat.le_of_ble_eq_true rfl)) dV_mayWrite_55 ⟨Nat.le_of_ble_eq_true rfl, Nat.le_of_ble_eq_true rfl⟩) hS (fun q _ h => hFc q h) hFc (fun r7 u t H1 locs ht hvm hr8 hB hz1 hk1 hS => ?_)
  obtain ⟨hP1, hK1, hD1⟩ := hB
  rw [ht] at hP1
  have hK1 := va_K.moved hvm.symm hK1
  obtain ⟨hP, hD⟩ := va_join (wr := [(pg, .inr (3, [.int 400, .int 0, .int 0, .int 0, .int 0, .int 0]))]) (w1 := [(x, .inr (0, [.ref rt, .ref dr, .int 0, .int 0, .ref bs, .ref df, .ref ch, .ref pg, .int 0]))]) hP hD [0] [1] rfl rfl (by decide) (by decide) hk1 hFc hP1 hD1
  generalize H1 = H at hP hS ⊢
  have hP : va_P (dC, dI) kCl [(pg, .inr (3, [.int 400, .int 0, .int 0, .int 0, .int 0, .int 0])), (x, .inr (0, [.ref rt, .ref dr, .int 0, .int 0, .ref bs, .ref df, .ref ch, .ref pg, .int 0]))] H := hP
  have hD : va_D A [(pg, .inr (3, [.int 400, .int 0, .int 0, .int 0, .int 0, .int 0])), (x, .inr (0, [.ref rt, .ref dr, .int 0, .int 0, .ref bs, .ref df, .ref ch, .ref pg, .int 0]))] := hD
  refine W.widen (k := 0) (n := 0) (Nat.le_of_ble_eq_true rfl) (Nat.le_of_ble_eq_true rfl) ?_
  obtain rfl : r7 = 1 := hr8
  have hP9 := hP.sub (ws' := [(x, .inr (0, [.ref rt, .ref dr, .int 0, .int 0, .ref bs, .ref df, .ref ch, .ref pg, .int 0])), (pg, .inr (3, [.int 400, .int 0, .int 0, .int 0, .int 0, .int 0]))]) [1, 0] rfl
  have hD9 := hD.sub (ws' := [(x, .inr (0, [.ref rt, .ref dr, .int 0, .int 0, .ref bs, .ref df, .ref ch, .ref pg, .int 0])), (pg, .inr (3, [.int 400, .int 0, .int 0, .int 0, .int 0, .int 0]))]) [1, 0] (by decide) rfl
  have hK9 := hK.sub (tys' := []) [] rfl
  exact W.zret (pc := 58) hx hb hr rfl (fun t ht hW => ⟨⟨_, (), rfl, rfl, by rw [ht]; exact hP9, va_K.moved hW.alike hK9, hD9⟩, hS.F ht⟩) hS.2.2 dV_mayWrite_58
set_option maxHeartbeats 4000000 in
set_option maxRecDepth 100000 in
theorem v_mayWrite (l : Launch) (dC : Nat → ClassId) (dI : Nat → Nat → Nat) (sz : Nat) (x : Nat) (rt : Nat) (dr : Nat) (bs : Nat) (df : Nat) (ch : Nat) (pg : Nat) (rs : Int32) (rf : Int32) (kk : Int32) (hf : ¬ rf = 0) : Met l yV_mayWrite (.code yV_mayWrite cV_mayWrite 3 (some .boolean) :: aw) ({ frames := 1, cells := 0, slots := 0, locals := 21 }) (pW (dC, dI) sz [(x, .inr (0, [.ref rt, .ref dr, .int 0, .int 0, .ref bs, .ref df, .ref ch, .ref pg, .int rs]))] [] [.ref x, .int rf, .int kk]) (va_Qi (fun r (_ : Unit) => r = 0) (fun _ t => wW (dC, dI) (va_A [(x, .inr (0, [.ref rt, .ref dr, .int 0, .int 0, .ref bs, .ref df, .ref ch, .ref pg, .int rs]))] sz) [(x, .inr (0, [.ref rt, .ref dr, .int 0, .int 0, .ref bs, .ref df, .ref ch, .ref pg, .int rf]))] [] t) (va_A [(x, .inr (0, [.ref rt, .ref dr, .int 0, .int 0, .ref bs, .ref df, .ref ch, .ref pg, .int rs]))] sz)) 0 0 (va_A [(x, .inr (0, [.ref rt, .ref dr, .int 0, .int 0, .ref bs, .ref df, .ref ch, .ref pg, .int rs]))] sz) := by
  refine Met.ofW (cc := cV_mayWrite) (maxL := 3) (ret := (some .boolean)) (by decide) rfl ?_
  intro p e s m args below meth c s₁ B hml hv
  obtain ⟨rfl, hv⟩ := hv
  have hx := B.exec
  have hb := B.bytes
  have hr := B.returns
  have hts : ∀ w ∈ aw, w.before _ s = true := fun w h => atoms_spec (ws := (.code yV_mayWrite cV_mayWrite 3 (some .boolean) :: aw)) B.pre w (List.mem_cons_of_mem _ h)
  have hown : s.vm.findClass RV = some m.cls := findClass_of_methodNamed B.named
  have hlocks := B.notSynchronized
  obtain ⟨hsz, hP, hK, hD0⟩ := hv
  subst hsz
  have hD := hD0.self (sz := s.heap.size)
  generalize hAe : va_A [(x, .inr (0, [.ref rt, .ref dr, .int 0, .int 0, .ref bs, .ref df, .ref ch, .ref pg, .int rs]))] s.heap.size = A at hD ⊢
  have hA : ∀ q : Nat, s.heap.size ≤ q → A q := fun q h => by rw [← hAe]; exact Or.inr h
  obtain ⟨H, hH⟩ : ∃ H, H = s.heap := ⟨_, rfl⟩
  have hS : va_S A s.heap H [] := by rw [hH]; exact va_S.rf
  rw [← hH] at hP ⊢
  have hP : va_P (dC, dI) kCl [(x, .inr (0, [.ref rt, .ref dr, .int 0, .int 0, .ref bs, .ref df, .ref ch, .ref pg, .int rs]))] H := hP
  have hl := lv_entry ([.ref x, .int rf, .int kk]) (n := 3) (Nat.le_of_ble_eq_true rfl)
  rw [lg_entry_eq]
  generalize (lg_sl ([.ref x, .int rf, .int kk]) ++ List.replicate (3 - (lg_sl ([.ref x, .int rf, .int kk])).length) Slot.unset).toArray = ls at hl ⊢
  have hl : lv_has ls 3 [(0, .ref x), (1, .int rf), (2, .int kk)] := hl
  refine lv_iload_n (pc := 0) hx hb dV_mayWrite_0 rfl (lv_at hl 1 rfl) ?_
  refine lv_if_ne (pc := 1) (tgt := 22) hx hb dV_mayWrite_1 rfl (fun h1 => ?_) (fun h1 => absurd h1 hf)
  refine lv_iload_n (pc := 22) hx hb dV_mayWrite_22 rfl (lv_at hl 1 rfl) ?_
  refine lv_if_ne (pc := 23) (tgt := 53) hx hb dV_mayWrite_23 rfl (fun h2 => ?_) (fun h2 => absurd h2 hf)
  refine lv_aload_n (pc := 53) hx hb dV_mayWrite_53 rfl (lv_at hl 0 rfl) ?_
  refine lv_iload_n (pc := 54) hx hb dV_mayWrite_54 rfl (lv_at hl 1 rfl) ?_
  have hPc := hP.sub (ws' := [(x, .inr (0, [.ref rt, .ref dr, .int 0, .int 0, .ref bs, .ref df, .ref ch, .ref pg, .int rs]))]) [0] rfl
  have hDc := hD.sub (ws' := [(x, .inr (0, [.ref rt, .ref dr, .int 0, .int 0, .ref bs, .ref df, .ref ch, .ref pg, .int rs]))]) [0] (by decide) rfl
  have hKc := hK.sub (tys' := []) [] rfl
  have hFc := va_free (wc := [(x, .inr (0, [.ref rt, .ref dr, .int 0, .int 0, .ref bs, .ref df, .ref ch, .ref pg, .int rs]))]) hD hS hA [0] rfl
  refine va_calli (pc := 55) (va_runV (As := [.int rf]) (rest := []) ⟨hx, hb, hml, hown, hts⟩ (v_allowed l dC dI H.size x rt dr bs df ch pg rs rf (hf)) (cwV 1 hts (gV wd_62 wd_63 wd_64 wd_35 wd_61) rfl rfl rfl (by decide +kernel) ⟨Nat.le_of_ble_eq_true rfl, Nat.le_of_ble_eq_true rfl⟩) ⟨pW_blind, va_recv (q := (RV, TV, 9)) (q0 := 0) (ci := 0) hK hP rfl rfl, pW_pre hPc hKc hDc⟩ rfl rfl hl.1 rfl (lv_room (Nat.le_of_ble_eq_true rfl)) dV_mayWrite_55 ⟨Nat.le_of_ble_eq_true rfl, Nat.le_of_ble_eq_true rfl⟩) hS (fun q _ h => hFc q h) hFc (fun r3 u t H1 locs ht hvm hr4 hB hz1 hk1 hS => ?_)
  obtain ⟨hP1, hK1, hD1⟩ := hB
  rw [ht] at hP1
  have hK1 := va_K.moved hvm.symm hK1
  obtain ⟨hP, hD⟩ := va_join (wr := []) (w1 := [(x, .inr (0, [.ref rt, .ref dr, .int 0, .int 0, .ref bs, .ref df, .ref ch, .ref pg, .int rf]))]) hP hD [0] [] rfl rfl (by decide) (by decide) hk1 hFc hP1 hD1
  generalize H1 = H at hP hS ⊢
  have hP : va_P (dC, dI) kCl [(x, .inr (0, [.ref rt, .ref dr, .int 0, .int 0, .ref bs, .ref df, .ref ch, .ref pg, .int rf]))] H := hP
  have hD : va_D A [(x, .inr (0, [.ref rt, .ref dr, .int 0, .int 0, .ref bs, .ref df, .ref ch, .ref pg, .int rf]))] := hD
  refine W.widen (k := 0) (n := 0) (Nat.le_of_ble_eq_true rfl) (Nat.le_of_ble_eq_true rfl) ?_
  obtain rfl : r3 = 0 := hr4
  have hP9 := hP.sub (ws' := [(x, .inr (0, [.ref rt, .ref dr, .int 0, .int 0, .ref bs, .ref df, .ref ch, .ref pg, .int rf]))]) [0] rfl
  have hD9 := hD.sub (ws' := [(x, .inr (0, [.ref rt, .ref dr, .int 0, .int 0, .ref bs, .ref df, .ref ch, .ref pg, .int rf]))]) [0] (by decide) rfl
  have hK9 := hK.sub (tys' := []) [] rfl
  exact W.zret (pc := 58) hx hb hr rfl (fun t ht hW => ⟨⟨_, (), rfl, rfl, by rw [ht]; exact hP9, va_K.moved hW.alike hK9, hD9⟩, hS.F ht⟩) hS.2.2 dV_mayWrite_58
set_option maxHeartbeats 4000000 in
set_option maxRecDepth 100000 in
theorem v_becomes (l : Launch) (dC : Nat → ClassId) (dI : Nat → Nat → Nat) (sz : Nat) (x : Nat) (rt : Nat) (dr : Nat) (bs : Nat) (df : Nat) (ch : Nat) (pg : Nat) (rs : Int32) (dd : Int32) (vv : Int32) (sv : Int32) (rf : Int32) (hf : ¬ rf = 0) : Met l yV_becomes (.code yV_becomes cV_becomes 6 (some .boolean) :: aw) ({ frames := 2, cells := 0, slots := 0, locals := 44 }) (pW (dC, dI) sz [(x, .inr (0, [.ref rt, .ref dr, .int 0, .int 0, .ref bs, .ref df, .ref ch, .ref pg, .int rs]))] [] [.ref x, .int dd, .int vv, .int sv, .int rf]) (va_Qi (fun r (_ : Unit) => r = 0) (fun _ t => wW (dC, dI) (va_A [(x, .inr (0, [.ref rt, .ref dr, .int 0, .int 0, .ref bs, .ref df, .ref ch, .ref pg, .int rs]))] sz) [] [] t) (va_A [(x, .inr (0, [.ref rt, .ref dr, .int 0, .int 0, .ref bs, .ref df, .ref ch, .ref pg, .int rs]))] sz)) 0 0 (va_A [(x, .inr (0, [.ref rt, .ref dr, .int 0, .int 0, .ref bs, .ref df, .ref ch, .ref pg, .int rs]))] sz) := by
  refine Met.ofW (cc := cV_becomes) (maxL := 6) (ret := (some .boolean)) (by decide) rfl ?_
  intro p e s m args below meth c s₁ B hml hv
  obtain ⟨rfl, hv⟩ := hv
  have hx := B.exec
  have hb := B.bytes
  have hr := B.returns
  have hts : ∀ w ∈ aw, w.before _ s = true := fun w h => atoms_spec (ws := (.code yV_becomes cV_becomes 6 (some .boolean) :: aw)) B.pre w (List.mem_cons_of_mem _ h)
  have hown : s.vm.findClass RV = some m.cls := findClass_of_methodNamed B.named
  have hlocks := B.notSynchronized
  obtain ⟨hsz, hP, hK, hD0⟩ := hv
  subst hsz
  have hD := hD0.self (sz := s.heap.size)
  generalize hAe : va_A [(x, .inr (0, [.ref rt, .ref dr, .int 0, .int 0, .ref bs, .ref df, .ref ch, .ref pg, .int rs]))] s.heap.size = A at hD ⊢
  have hA : ∀ q : Nat, s.heap.size ≤ q → A q := fun q h => by rw [← hAe]; exact Or.inr h
  obtain ⟨H, hH⟩ : ∃ H, H = s.heap := ⟨_, rfl⟩
  have hS : va_S A s.heap H [] := by rw [hH]; exact va_S.rf
  rw [← hH] at hP ⊢
  have hP : va_P (dC, dI) kCl [(x, .inr (0, [.ref rt, .ref dr, .int 0, .int 0, .ref bs, .ref df, .ref ch, .ref pg, .int rs]))] H := hP
  have hl := lv_entry ([.ref x, .int dd, .int vv, .int sv, .int rf]) (n := 6) (Nat.le_of_ble_eq_true rfl)
  rw [lg_entry_eq]
  generalize (lg_sl ([.ref x, .int dd, .int vv, .int sv, .int rf]) ++ List.replicate (6 - (lg_sl ([.ref x, .int dd, .int vv, .int sv, .int rf])).length) Slot.unset).toArray = ls at hl ⊢
  have hl : lv_has ls 6 [(0, .ref x), (1, .int dd), (2, .int vv), (3, .int sv), (4, .int rf)] := hl
  refine lv_aload_n (pc := 0) hx hb dV_becomes_0 rfl (lv_at hl 0 rfl) ?_
  refine lv_iload_n (pc := 1) hx hb dV_becomes_1 rfl (lv_at hl 1 rfl) ?_
  refine lv_iload_n (pc := 2) hx hb dV_becomes_2 rfl (lv_at hl 2 rfl) ?_
  refine va_csq (pc := 3) (W.runV (As := [.int dd, .int vv]) (rest := []) ⟨hx, hb, hml, hown, hts⟩ (v_revisionAt l dC dI x rt dr bs df ch pg rs dd vv) (cwV 2 hts (gV wd_50 wd_51 wd_52 wd_35 wd_49) rfl rfl rfl (by decide +kernel) ⟨Nat.le_of_ble_eq_true rfl, Nat.le_of_ble_eq_true rfl⟩) ⟨pR_blind, va_recv (q := (RV, TV, 9)) (q0 := 0) (ci := 0) hK hP rfl rfl, pR_pre (hP.sub (ws' := [(x, .inr (0, [.ref rt, .ref dr, .int 0, .int 0, .ref bs, .ref df, .ref ch, .ref pg, .int rs]))]) [0] rfl) (hK.sub (tys' := []) [] rfl)⟩ rfl rfl hl.1 rfl (lv_room (Nat.le_of_ble_eq_true rfl)) dV_becomes_3 ⟨Nat.le_of_ble_eq_true rfl, Nat.le_of_ble_eq_true rfl⟩) (fun r1 hr2 => ?_)
  obtain rfl : r1 = none := hr2
  refine W.eq (g2 := F0 m 6 ls [.null]) rfl ?_
  refine lv_astoreN (pc := 6) hx hb dV_becomes_6 hl (by decide) rfl (fun ls hl => ?_)
  have hl : lv_has ls 6 [(5, .null), (0, .ref x), (1, .int dd), (2, .int vv), (3, .int sv), (4, .int rf)] := hl
  refine lv_aload_n (pc := 8) hx hb dV_becomes_8 rfl (lv_at hl 1 rfl) ?_
  refine lv_iload (pc := 9) hx hb dV_becomes_9 (lv_at hl 5 rfl) ?_
  refine lv_iconst (pc := 11) (v := 1) hx hb dV_becomes_11 (by decide) ?_
  have hPc := hP.sub (ws' := [(x, .inr (0, [.ref rt, .ref dr, .int 0, .int 0, .ref bs, .ref df, .ref ch, .ref pg, .int rs]))]) [0] rfl
  have hDc := hD.sub (ws' := [(x, .inr (0, [.ref rt, .ref dr, .int 0, .int 0, .ref bs, .ref df, .ref ch, .ref pg, .int rs]))]) [0] (by decide) rfl
  have hKc := hK.sub (tys' := []) [] rfl
  have hFc := va_free (wc := [(x, .inr (0, [.ref rt, .ref dr, .int 0, .int 0, .ref bs, .ref df, .ref ch, .ref pg, .int rs]))]) hD hS hA [0] rfl
  refine va_calli (pc := 12) (va_runV (As := [.int rf, .int 1]) (rest := []) ⟨hx, hb, hml, hown, hts⟩ (v_mayWrite l dC dI H.size x rt dr bs df ch pg rs rf 1 (hf)) (cwV 2 hts (gV wd_66 wd_67 wd_68 wd_35 wd_65) rfl rfl rfl (by decide +kernel) ⟨Nat.le_of_ble_eq_true rfl, Nat.le_of_ble_eq_true rfl⟩) ⟨pW_blind, va_recv (q := (RV, TV, 9)) (q0 := 0) (ci := 0) hK hP rfl rfl, pW_pre hPc hKc hDc⟩ rfl rfl hl.1 rfl (lv_room (Nat.le_of_ble_eq_true rfl)) dV_becomes_12 ⟨Nat.le_of_ble_eq_true rfl, Nat.le_of_ble_eq_true rfl⟩) hS (fun q _ h => hFc q h) hFc (fun r3 u t H1 locs ht hvm hr4 hB hz1 hk1 hS => ?_)
  obtain ⟨hP1, hK1, hD1⟩ := hB
  rw [ht] at hP1
  have hK1 := va_K.moved hvm.symm hK1
  obtain ⟨hP, hD⟩ := va_join (wr := []) (w1 := [(x, .inr (0, [.ref rt, .ref dr, .int 0, .int 0, .ref bs, .ref df, .ref ch, .ref pg, .int rf]))]) hP hD [0] [] rfl rfl (by decide) (by decide) hk1 hFc hP1 hD1
  generalize H1 = H at hP hS ⊢
  have hP : va_P (dC, dI) kCl [(x, .inr (0, [.ref rt, .ref dr, .int 0, .int 0, .ref bs, .ref df, .ref ch, .ref pg, .int rf]))] H := hP
  have hD : va_D A [(x, .inr (0, [.ref rt, .ref dr, .int 0, .int 0, .ref bs, .ref df, .ref ch, .ref pg, .int rf]))] := hD
  refine W.widen (k := 0) (n := 0) (Nat.le_of_ble_eq_true rfl) (Nat.le_of_ble_eq_true rfl) ?_
  obtain rfl : r3 = 0 := hr4
  refine lv_if_eq (pc := 15) (tgt := 23) hx hb dV_becomes_15 rfl (fun h6 => ?_) (fun h6 => absurd h6 (by decide))
  refine lv_iconst (pc := 23) (v := 0) hx hb dV_becomes_23 (by decide) ?_
  have hP9 := hP.sub (ws' := []) [] rfl
  have hD9 := hD.sub (ws' := []) [] (by decide) rfl
  have hK9 := hK.sub (tys' := []) [] rfl
  exact W.zret (pc := 24) hx hb hr rfl (fun t ht hW => ⟨⟨_, (), rfl, rfl, by rw [ht]; exact hP9, va_K.moved hW.alike hK9, hD9⟩, hS.F ht⟩) hS.2.2 dV_becomes_24
set_option maxHeartbeats 4000000 in
set_option maxRecDepth 100000 in
theorem v_drawing (l : Launch) (dC : Nat → ClassId) (dI : Nat → Nat → Nat) (sz : Nat) (x : Nat) (rt : Nat) (dr : Nat) (bs : Nat) (df : Nat) (ch : Nat) (pg : Nat) (rs : Int32) (cR : ClassId) (pp : Int32) : Met l yV_drawing (.code yV_drawing cV_drawing 4 (some .int) :: aw) ({ frames := 3, cells := 0, slots := 0, locals := 64 }) (pW (dC, dI) sz [(x, .inr (0, [.ref rt, .ref dr, .int 0, .int 0, .ref bs, .ref df, .ref ch, .ref pg, .int rs])), (rt, .inl (cR, 16, .inl (fun _ => 0))), (pg, .inr (3, [.int 400, .int 0, .int 0, .int 0, .int 0, .int 0]))] [(cR, .int)] [.ref x, .int pp]) (va_Qi (fun r (_ : Unit) => r = (-1)) (fun _ t => wW (dC, dI) (va_A [(x, .inr (0, [.ref rt, .ref dr, .int 0, .int 0, .ref bs, .ref df, .ref ch, .ref pg, .int rs])), (rt, .inl (cR, 16, .inl (fun _ => 0))), (pg, .inr (3, [.int 400, .int 0, .int 0, .int 0, .int 0, .int 0]))] sz) [] [] t) (va_A [(x, .inr (0, [.ref rt, .ref dr, .int 0, .int 0, .ref bs, .ref df, .ref ch, .ref pg, .int rs])), (rt, .inl (cR, 16, .inl (fun _ => 0))), (pg, .inr (3, [.int 400, .int 0, .int 0, .int 0, .int 0, .int 0]))] sz)) 0 0 (va_A [(x, .inr (0, [.ref rt, .ref dr, .int 0, .int 0, .ref bs, .ref df, .ref ch, .ref pg, .int rs])), (rt, .inl (cR, 16, .inl (fun _ => 0))), (pg, .inr (3, [.int 400, .int 0, .int 0, .int 0, .int 0, .int 0]))] sz) := by
  refine Met.ofW (cc := cV_drawing) (maxL := 4) (ret := (some .int)) (by decide) rfl ?_
  intro p e s m args below meth c s₁ B hml hv
  obtain ⟨rfl, hv⟩ := hv
  have hx := B.exec
  have hb := B.bytes
  have hr := B.returns
  have hts : ∀ w ∈ aw, w.before _ s = true := fun w h => atoms_spec (ws := (.code yV_drawing cV_drawing 4 (some .int) :: aw)) B.pre w (List.mem_cons_of_mem _ h)
  have hown : s.vm.findClass RV = some m.cls := findClass_of_methodNamed B.named
  have hlocks := B.notSynchronized
  obtain ⟨hsz, hP, hK, hD0⟩ := hv
  subst hsz
  have hD := hD0.self (sz := s.heap.size)
  generalize hAe : va_A [(x, .inr (0, [.ref rt, .ref dr, .int 0, .int 0, .ref bs, .ref df, .ref ch, .ref pg, .int rs])), (rt, .inl (cR, 16, .inl (fun _ => 0))), (pg, .inr (3, [.int 400, .int 0, .int 0, .int 0, .int 0, .int 0]))] s.heap.size = A at hD ⊢
  have hA : ∀ q : Nat, s.heap.size ≤ q → A q := fun q h => by rw [← hAe]; exact Or.inr h
  obtain ⟨H, hH⟩ : ∃ H, H = s.heap := ⟨_, rfl⟩
  have hS : va_S A s.heap H [] := by rw [hH]; exact va_S.rf
  rw [← hH] at hP ⊢
  have hP : va_P (dC, dI) kCl [(x, .inr (0, [.ref rt, .ref dr, .int 0, .int 0, .ref bs, .ref df, .ref ch, .ref pg, .int rs])), (rt, .inl (cR, 16, .inl (fun _ => 0))), (pg, .inr (3, [.int 400, .int 0, .int 0, .int 0, .int 0, .int 0]))] H := hP
  have hl := lv_entry ([.ref x, .int pp]) (n := 4) (Nat.le_of_ble_eq_true rfl)
  rw [lg_entry_eq]
  generalize (lg_sl ([.ref x, .int pp]) ++ List.replicate (4 - (lg_sl ([.ref x, .int pp])).length) Slot.unset).toArray = ls at hl ⊢
  have hl : lv_has ls 4 [(0, .ref x), (1, .int pp)] := hl
  refine lv_aload_n (pc := 0) hx hb dV_drawing_0 rfl (lv_at hl 0 rfl) ?_
  refine va_csv (pc := 1) (W.runV (As := []) (rest := []) ⟨hx, hb, hml, hown, hts⟩ (v_needPower l dC dI x rt dr bs df ch pg rs) (cwV 0 hts (gV wd_70 wd_71 wd_72 wd_35 wd_69) rfl rfl rfl (by decide +kernel) ⟨Nat.le_of_ble_eq_true rfl, Nat.le_of_ble_eq_true rfl⟩) ⟨pR_blind, va_recv (q := (RV, TV, 9)) (q0 := 0) (ci := 0) hK hP rfl rfl, pR_pre (hP.sub (ws' := [(x, .inr (0, [.ref rt, .ref dr, .int 0, .int 0, .ref bs, .ref df, .ref ch, .ref pg, .int rs])), (pg, .inr (3, [.int 400, .int 0, .int 0, .int 0, .int 0, .int 0]))]) [0, 2] rfl) (hK.sub (tys' := []) [] rfl)⟩ rfl rfl hl.1 rfl (lv_room (Nat.le_of_ble_eq_true rfl)) dV_drawing_1 ⟨Nat.le_of_ble_eq_true rfl, Nat.le_of_ble_eq_true rfl⟩) (fun hr2 => ?_)
  refine lv_aload_n (pc := 4) hx hb dV_drawing_4 rfl (lv_at hl 0 rfl) ?_
  refine lv_aload_n (pc := 5) hx hb dV_drawing_5 rfl (lv_at hl 0 rfl) ?_
  refine lv_iload_n (pc := 6) hx hb dV_drawing_6 rfl (lv_at hl 1 rfl) ?_
  refine vp_callSi (pc := 7) (W.runV (As := [.int pp]) (rest := [.ref x]) ⟨hx, hb, hml, hown, hts⟩ (v_drawingRefusal l dC dI x rt dr bs df ch pg rs cR pp) (cwV 1 hts (gV wd_74 wd_75 wd_76 wd_35 wd_73) rfl rfl rfl (by decide +kernel) ⟨Nat.le_of_ble_eq_true rfl, Nat.le_of_ble_eq_true rfl⟩) ⟨pR_blind, va_recv (q := (RV, TV, 9)) (q0 := 0) (ci := 0) hK hP rfl rfl, pR_pre (hP.sub (ws' := [(x, .inr (0, [.ref rt, .ref dr, .int 0, .int 0, .ref bs, .ref df, .ref ch, .ref pg, .int rs])), (rt, .inl (cR, 16, .inl (fun _ => 0)))]) [0, 1] rfl) (hK.sub (tys' := [(cR, .int)]) [0] rfl)⟩ rfl rfl hl.1 rfl (lv_room (Nat.le_of_ble_eq_true rfl)) dV_drawing_7 ⟨Nat.le_of_ble_eq_true rfl, Nat.le_of_ble_eq_true rfl⟩) (fun r3 hr4 => ?_)
  obtain rfl : r3 = 1 := hr4
  refine lv_iconst (pc := 10) (v := 2) hx hb dV_drawing_10 (by decide) ?_
  have hPc := hP.sub (ws' := [(x, .inr (0, [.ref rt, .ref dr, .int 0, .int 0, .ref bs, .ref df, .ref ch, .ref pg, .int rs]))]) [0] rfl
  have hDc := hD.sub (ws' := [(x, .inr (0, [.ref rt, .ref dr, .int 0, .int 0, .ref bs, .ref df, .ref ch, .ref pg, .int rs]))]) [0] (by decide) rfl
  have hKc := hK.sub (tys' := []) [] rfl
  have hFc := va_free (wc := [(x, .inr (0, [.ref rt, .ref dr, .int 0, .int 0, .ref bs, .ref df, .ref ch, .ref pg, .int rs]))]) hD hS hA [0] rfl
  refine va_calli (pc := 11) (va_runV (As := [.int 1, .int 2]) (rest := []) ⟨hx, hb, hml, hown, hts⟩ (v_mayWrite l dC dI H.size x rt dr bs df ch pg rs 1 2 (by decide)) (cwV 2 hts (gV wd_66 wd_67 wd_68 wd_35 wd_65) rfl rfl rfl (by decide +kernel) ⟨Nat.le_of_ble_eq_true rfl, Nat.le_of_ble_eq_true rfl⟩) ⟨pW_blind, va_recv (q := (RV, TV, 9)) (q0 := 0) (ci := 0) hK hP rfl rfl, pW_pre hPc hKc hDc⟩ rfl rfl hl.1 rfl (lv_room (Nat.le_of_ble_eq_true rfl)) dV_drawing_11 ⟨Nat.le_of_ble_eq_true rfl, Nat.le_of_ble_eq_true rfl⟩) hS (fun q _ h => hFc q h) hFc (fun r5 u t H1 locs ht hvm hr6 hB hz1 hk1 hS => ?_)
  obtain ⟨hP1, hK1, hD1⟩ := hB
  rw [ht] at hP1
  have hK1 := va_K.moved hvm.symm hK1
  obtain ⟨hP, hD⟩ := va_join (wr := [(rt, .inl (cR, 16, .inl (fun _ => 0))), (pg, .inr (3, [.int 400, .int 0, .int 0, .int 0, .int 0, .int 0]))]) (w1 := [(x, .inr (0, [.ref rt, .ref dr, .int 0, .int 0, .ref bs, .ref df, .ref ch, .ref pg, .int 1]))]) hP hD [0] [1, 2] rfl rfl (by decide) (by decide) hk1 hFc hP1 hD1
  generalize H1 = H at hP hS ⊢
  have hP : va_P (dC, dI) kCl [(rt, .inl (cR, 16, .inl (fun _ => 0))), (pg, .inr (3, [.int 400, .int 0, .int 0, .int 0, .int 0, .int 0])), (x, .inr (0, [.ref rt, .ref dr, .int 0, .int 0, .ref bs, .ref df, .ref ch, .ref pg, .int 1]))] H := hP
  have hD : va_D A [(rt, .inl (cR, 16, .inl (fun _ => 0))), (pg, .inr (3, [.int 400, .int 0, .int 0, .int 0, .int 0, .int 0])), (x, .inr (0, [.ref rt, .ref dr, .int 0, .int 0, .ref bs, .ref df, .ref ch, .ref pg, .int 1]))] := hD
  refine W.widen (k := 0) (n := 0) (Nat.le_of_ble_eq_true rfl) (Nat.le_of_ble_eq_true rfl) ?_
  obtain rfl : r5 = 0 := hr6
  refine lv_if_ne (pc := 14) (tgt := 19) hx hb dV_drawing_14 rfl (fun h8 => absurd h8 (by decide)) (fun h8 => ?_)
  refine lv_iconst (pc := 17) (v := (-1)) hx hb dV_drawing_17 (by decide) ?_
  have hP9 := hP.sub (ws' := []) [] rfl
  have hD9 := hD.sub (ws' := []) [] (by decide) rfl
  have hK9 := hK.sub (tys' := []) [] rfl
  exact W.iret (pc := 18) hx hb hr (fun t ht hW => ⟨⟨_, (), rfl, rfl, by rw [ht]; exact hP9, va_K.moved hW.alike hK9, hD9⟩, hS.F ht⟩) hS.2.2 dV_drawing_18
set_option maxHeartbeats 4000000 in
set_option maxRecDepth 100000 in
theorem v_out (l : Launch) (dC : Nat → ClassId) (dI : Nat → Nat → Nat) (sz : Nat) (x : Nat) (rt : Nat) (dr : Nat) (bs : Nat) (df : Nat) (ch : Nat) (pg : Nat) (rs : Int32) (cR : ClassId) (dd : Int32) (pp : Int32) : Met l yV_out (.code yV_out cV_out 4 (some .boolean) :: aw) ({ frames := 3, cells := 0, slots := 0, locals := 64 }) (pW (dC, dI) sz [(x, .inr (0, [.ref rt, .ref dr, .int 0, .int 0, .ref bs, .ref df, .ref ch, .ref pg, .int rs])), (rt, .inl (cR, 16, .inl (fun _ => 0))), (pg, .inr (3, [.int 400, .int 0, .int 0, .int 0, .int 0, .int 0]))] [(cR, .int)] [.ref x, .int dd, .int pp]) (va_Qi (fun r (_ : Unit) => r = 0) (fun _ t => wW (dC, dI) (va_A [(x, .inr (0, [.ref rt, .ref dr, .int 0, .int 0, .ref bs, .ref df, .ref ch, .ref pg, .int rs])), (rt, .inl (cR, 16, .inl (fun _ => 0))), (pg, .inr (3, [.int 400, .int 0, .int 0, .int 0, .int 0, .int 0]))] sz) [] [] t) (va_A [(x, .inr (0, [.ref rt, .ref dr, .int 0, .int 0, .ref bs, .ref df, .ref ch, .ref pg, .int rs])), (rt, .inl (cR, 16, .inl (fun _ => 0))), (pg, .inr (3, [.int 400, .int 0, .int 0, .int 0, .int 0, .int 0]))] sz)) 0 0 (va_A [(x, .inr (0, [.ref rt, .ref dr, .int 0, .int 0, .ref bs, .ref df, .ref ch, .ref pg, .int rs])), (rt, .inl (cR, 16, .inl (fun _ => 0))), (pg, .inr (3, [.int 400, .int 0, .int 0, .int 0, .int 0, .int 0]))] sz) := by
  refine Met.ofW (cc := cV_out) (maxL := 4) (ret := (some .boolean)) (by decide) rfl ?_
  intro p e s m args below meth c s₁ B hml hv
  obtain ⟨rfl, hv⟩ := hv
  have hx := B.exec
  have hb := B.bytes
  have hr := B.returns
  have hts : ∀ w ∈ aw, w.before _ s = true := fun w h => atoms_spec (ws := (.code yV_out cV_out 4 (some .boolean) :: aw)) B.pre w (List.mem_cons_of_mem _ h)
  have hown : s.vm.findClass RV = some m.cls := findClass_of_methodNamed B.named
  have hlocks := B.notSynchronized
  obtain ⟨hsz, hP, hK, hD0⟩ := hv
  subst hsz
  have hD := hD0.self (sz := s.heap.size)
  generalize hAe : va_A [(x, .inr (0, [.ref rt, .ref dr, .int 0, .int 0, .ref bs, .ref df, .ref ch, .ref pg, .int rs])), (rt, .inl (cR, 16, .inl (fun _ => 0))), (pg, .inr (3, [.int 400, .int 0, .int 0, .int 0, .int 0, .int 0]))] s.heap.size = A at hD ⊢
  have hA : ∀ q : Nat, s.heap.size ≤ q → A q := fun q h => by rw [← hAe]; exact Or.inr h
  obtain ⟨H, hH⟩ : ∃ H, H = s.heap := ⟨_, rfl⟩
  have hS : va_S A s.heap H [] := by rw [hH]; exact va_S.rf
  rw [← hH] at hP ⊢
  have hP : va_P (dC, dI) kCl [(x, .inr (0, [.ref rt, .ref dr, .int 0, .int 0, .ref bs, .ref df, .ref ch, .ref pg, .int rs])), (rt, .inl (cR, 16, .inl (fun _ => 0))), (pg, .inr (3, [.int 400, .int 0, .int 0, .int 0, .int 0, .int 0]))] H := hP
  have hl := lv_entry ([.ref x, .int dd, .int pp]) (n := 4) (Nat.le_of_ble_eq_true rfl)
  rw [lg_entry_eq]
  generalize (lg_sl ([.ref x, .int dd, .int pp]) ++ List.replicate (4 - (lg_sl ([.ref x, .int dd, .int pp])).length) Slot.unset).toArray = ls at hl ⊢
  have hl : lv_has ls 4 [(0, .ref x), (1, .int dd), (2, .int pp)] := hl
  refine lv_aload_n (pc := 0) hx hb dV_out_0 rfl (lv_at hl 0 rfl) ?_
  refine va_csv (pc := 1) (W.runV (As := []) (rest := []) ⟨hx, hb, hml, hown, hts⟩ (v_needPower l dC dI x rt dr bs df ch pg rs) (cwV 0 hts (gV wd_70 wd_71 wd_72 wd_35 wd_69) rfl rfl rfl (by decide +kernel) ⟨Nat.le_of_ble_eq_true rfl, Nat.le_of_ble_eq_true rfl⟩) ⟨pR_blind, va_recv (q := (RV, TV, 9)) (q0 := 0) (ci := 0) hK hP rfl rfl, pR_pre (hP.sub (ws' := [(x, .inr (0, [.ref rt, .ref dr, .int 0, .int 0, .ref bs, .ref df, .ref ch, .ref pg, .int rs])), (pg, .inr (3, [.int 400, .int 0, .int 0, .int 0, .int 0, .int 0]))]) [0, 2] rfl) (hK.sub (tys' := []) [] rfl)⟩ rfl rfl hl.1 rfl (lv_room (Nat.le_of_ble_eq_true rfl)) dV_out_1 ⟨Nat.le_of_ble_eq_true rfl, Nat.le_of_ble_eq_true rfl⟩) (fun hr2 => ?_)
  refine lv_aload_n (pc := 4) hx hb dV_out_4 rfl (lv_at hl 0 rfl) ?_
  refine lv_iload_n (pc := 5) hx hb dV_out_5 rfl (lv_at hl 1 rfl) ?_
  refine va_csq (pc := 6) (W.runV (As := [.int dd]) (rest := []) ⟨hx, hb, hml, hown, hts⟩ (v_drawingAt l dC dI x rt dr bs df ch pg rs dd) (cwV 1 hts (gV wd_41 wd_42 wd_43 wd_35 wd_40) rfl rfl rfl (by decide +kernel) ⟨Nat.le_of_ble_eq_true rfl, Nat.le_of_ble_eq_true rfl⟩) ⟨pR_blind, va_recv (q := (RV, TV, 9)) (q0 := 0) (ci := 0) hK hP rfl rfl, pR_pre (hP.sub (ws' := [(x, .inr (0, [.ref rt, .ref dr, .int 0, .int 0, .ref bs, .ref df, .ref ch, .ref pg, .int rs]))]) [0] rfl) (hK.sub (tys' := []) [] rfl)⟩ rfl rfl hl.1 rfl (lv_room (Nat.le_of_ble_eq_true rfl)) dV_out_6 ⟨Nat.le_of_ble_eq_true rfl, Nat.le_of_ble_eq_true rfl⟩) (fun r3 hr4 => ?_)
  obtain rfl : r3 = none := hr4
  refine W.eq (g2 := F0 m 9 ls [.null]) rfl ?_
  refine lv_astore_nN (pc := 9) hx hb dV_out_9 rfl hl (by decide) rfl (fun ls hl => ?_)
  have hl : lv_has ls 4 [(3, .null), (0, .ref x), (1, .int dd), (2, .int pp)] := hl
  refine lv_aload_n (pc := 10) hx hb dV_out_10 rfl (lv_at hl 1 rfl) ?_
  refine lv_aload_n (pc := 11) hx hb dV_out_11 rfl (lv_at hl 1 rfl) ?_
  refine lv_aload_nN (pc := 12) hx hb dV_out_12 rfl (lv_at hl 0 rfl) ?_
  refine lv_iload_n (pc := 13) hx hb dV_out_13 rfl (lv_at hl 3 rfl) ?_
  refine vp_callSi (pc := 14) (W.runV (As := [.null, .int pp]) (rest := [.ref x]) ⟨hx, hb, hml, hown, hts⟩ (v_outRefusal l dC dI x rt dr bs df ch pg rs cR pp) (cwV 2 hts (gV wd_78 wd_79 wd_80 wd_35 wd_77) rfl rfl rfl (by decide +kernel) ⟨Nat.le_of_ble_eq_true rfl, Nat.le_of_ble_eq_true rfl⟩) ⟨pR_blind, va_recv (q := (RV, TV, 9)) (q0 := 0) (ci := 0) hK hP rfl rfl, pR_pre (hP.sub (ws' := [(x, .inr (0, [.ref rt, .ref dr, .int 0, .int 0, .ref bs, .ref df, .ref ch, .ref pg, .int rs])), (rt, .inl (cR, 16, .inl (fun _ => 0)))]) [0, 1] rfl) (hK.sub (tys' := [(cR, .int)]) [0] rfl)⟩ rfl rfl hl.1 rfl (lv_room (Nat.le_of_ble_eq_true rfl)) dV_out_14 ⟨Nat.le_of_ble_eq_true rfl, Nat.le_of_ble_eq_true rfl⟩) (fun r5 hr6 => ?_)
  obtain rfl : r5 = 1 := hr6
  refine lv_iconst (pc := 17) (v := 1) hx hb dV_out_17 (by decide) ?_
  have hPc := hP.sub (ws' := [(x, .inr (0, [.ref rt, .ref dr, .int 0, .int 0, .ref bs, .ref df, .ref ch, .ref pg, .int rs]))]) [0] rfl
  have hDc := hD.sub (ws' := [(x, .inr (0, [.ref rt, .ref dr, .int 0, .int 0, .ref bs, .ref df, .ref ch, .ref pg, .int rs]))]) [0] (by decide) rfl
  have hKc := hK.sub (tys' := []) [] rfl
  have hFc := va_free (wc := [(x, .inr (0, [.ref rt, .ref dr, .int 0, .int 0, .ref bs, .ref df, .ref ch, .ref pg, .int rs]))]) hD hS hA [0] rfl
  refine va_calli (pc := 18) (va_runV (As := [.int 1, .int 1]) (rest := []) ⟨hx, hb, hml, hown, hts⟩ (v_mayWrite l dC dI H.size x rt dr bs df ch pg rs 1 1 (by decide)) (cwV 2 hts (gV wd_66 wd_67 wd_68 wd_35 wd_65) rfl rfl rfl (by decide +kernel) ⟨Nat.le_of_ble_eq_true rfl, Nat.le_of_ble_eq_true rfl⟩) ⟨pW_blind, va_recv (q := (RV, TV, 9)) (q0 := 0) (ci := 0) hK hP rfl rfl, pW_pre hPc hKc hDc⟩ rfl rfl hl.1 rfl (lv_room (Nat.le_of_ble_eq_true rfl)) dV_out_18 ⟨Nat.le_of_ble_eq_true rfl, Nat.le_of_ble_eq_true rfl⟩) hS (fun q _ h => hFc q h) hFc (fun r7 u t H1 locs ht hvm hr8 hB hz1 hk1 hS => ?_)
  obtain ⟨hP1, hK1, hD1⟩ := hB
  rw [ht] at hP1
  have hK1 := va_K.moved hvm.symm hK1
  obtain ⟨hP, hD⟩ := va_join (wr := [(rt, .inl (cR, 16, .inl (fun _ => 0))), (pg, .inr (3, [.int 400, .int 0, .int 0, .int 0, .int 0, .int 0]))]) (w1 := [(x, .inr (0, [.ref rt, .ref dr, .int 0, .int 0, .ref bs, .ref df, .ref ch, .ref pg, .int 1]))]) hP hD [0] [1, 2] rfl rfl (by decide) (by decide) hk1 hFc hP1 hD1
  generalize H1 = H at hP hS ⊢
  have hP : va_P (dC, dI) kCl [(rt, .inl (cR, 16, .inl (fun _ => 0))), (pg, .inr (3, [.int 400, .int 0, .int 0, .int 0, .int 0, .int 0])), (x, .inr (0, [.ref rt, .ref dr, .int 0, .int 0, .ref bs, .ref df, .ref ch, .ref pg, .int 1]))] H := hP
  have hD : va_D A [(rt, .inl (cR, 16, .inl (fun _ => 0))), (pg, .inr (3, [.int 400, .int 0, .int 0, .int 0, .int 0, .int 0])), (x, .inr (0, [.ref rt, .ref dr, .int 0, .int 0, .ref bs, .ref df, .ref ch, .ref pg, .int 1]))] := hD
  refine W.widen (k := 0) (n := 0) (Nat.le_of_ble_eq_true rfl) (Nat.le_of_ble_eq_true rfl) ?_
  obtain rfl : r7 = 0 := hr8
  refine lv_if_ne (pc := 21) (tgt := 26) hx hb dV_out_21 rfl (fun h10 => absurd h10 (by decide)) (fun h10 => ?_)
  refine lv_iconst (pc := 24) (v := 0) hx hb dV_out_24 (by decide) ?_
  have hP9 := hP.sub (ws' := []) [] rfl
  have hD9 := hD.sub (ws' := []) [] (by decide) rfl
  have hK9 := hK.sub (tys' := []) [] rfl
  exact W.zret (pc := 25) hx hb hr rfl (fun t ht hW => ⟨⟨_, (), rfl, rfl, by rw [ht]; exact hP9, va_K.moved hW.alike hK9, hD9⟩, hS.F ht⟩) hS.2.2 dV_out_25
set_option maxHeartbeats 4000000 in
set_option maxRecDepth 100000 in
theorem v_undo (l : Launch) (dC : Nat → ClassId) (dI : Nat → Nat → Nat) (sz : Nat) (x : Nat) (rt : Nat) (dr : Nat) (bs : Nat) (df : Nat) (ch : Nat) (pg : Nat) (rs : Int32) (cR : ClassId) (dd : Int32) (pp : Int32) : Met l yV_undo (.code yV_undo cV_undo 4 (some .boolean) :: aw) ({ frames := 3, cells := 0, slots := 0, locals := 64 }) (pW (dC, dI) sz [(x, .inr (0, [.ref rt, .ref dr, .int 0, .int 0, .ref bs, .ref df, .ref ch, .ref pg, .int rs])), (rt, .inl (cR, 16, .inl (fun _ => 0))), (pg, .inr (3, [.int 400, .int 0, .int 0, .int 0, .int 0, .int 0]))] [(cR, .int)] [.ref x, .int dd, .int pp]) (va_Qi (fun r (_ : Unit) => r = 0) (fun _ t => wW (dC, dI) (va_A [(x, .inr (0, [.ref rt, .ref dr, .int 0, .int 0, .ref bs, .ref df, .ref ch, .ref pg, .int rs])), (rt, .inl (cR, 16, .inl (fun _ => 0))), (pg, .inr (3, [.int 400, .int 0, .int 0, .int 0, .int 0, .int 0]))] sz) [] [] t) (va_A [(x, .inr (0, [.ref rt, .ref dr, .int 0, .int 0, .ref bs, .ref df, .ref ch, .ref pg, .int rs])), (rt, .inl (cR, 16, .inl (fun _ => 0))), (pg, .inr (3, [.int 400, .int 0, .int 0, .int 0, .int 0, .int 0]))] sz)) 0 0 (va_A [(x, .inr (0, [.ref rt, .ref dr, .int 0, .int 0, .ref bs, .ref df, .ref ch, .ref pg, .int rs])), (rt, .inl (cR, 16, .inl (fun _ => 0))), (pg, .inr (3, [.int 400, .int 0, .int 0, .int 0, .int 0, .int 0]))] sz) := by
  refine Met.ofW (cc := cV_undo) (maxL := 4) (ret := (some .boolean)) (by decide) rfl ?_
  intro p e s m args below meth c s₁ B hml hv
  obtain ⟨rfl, hv⟩ := hv
  have hx := B.exec
  have hb := B.bytes
  have hr := B.returns
  have hts : ∀ w ∈ aw, w.before _ s = true := fun w h => atoms_spec (ws := (.code yV_undo cV_undo 4 (some .boolean) :: aw)) B.pre w (List.mem_cons_of_mem _ h)
  have hown : s.vm.findClass RV = some m.cls := findClass_of_methodNamed B.named
  have hlocks := B.notSynchronized
  obtain ⟨hsz, hP, hK, hD0⟩ := hv
  subst hsz
  have hD := hD0.self (sz := s.heap.size)
  generalize hAe : va_A [(x, .inr (0, [.ref rt, .ref dr, .int 0, .int 0, .ref bs, .ref df, .ref ch, .ref pg, .int rs])), (rt, .inl (cR, 16, .inl (fun _ => 0))), (pg, .inr (3, [.int 400, .int 0, .int 0, .int 0, .int 0, .int 0]))] s.heap.size = A at hD ⊢
  have hA : ∀ q : Nat, s.heap.size ≤ q → A q := fun q h => by rw [← hAe]; exact Or.inr h
  obtain ⟨H, hH⟩ : ∃ H, H = s.heap := ⟨_, rfl⟩
  have hS : va_S A s.heap H [] := by rw [hH]; exact va_S.rf
  rw [← hH] at hP ⊢
  have hP : va_P (dC, dI) kCl [(x, .inr (0, [.ref rt, .ref dr, .int 0, .int 0, .ref bs, .ref df, .ref ch, .ref pg, .int rs])), (rt, .inl (cR, 16, .inl (fun _ => 0))), (pg, .inr (3, [.int 400, .int 0, .int 0, .int 0, .int 0, .int 0]))] H := hP
  have hl := lv_entry ([.ref x, .int dd, .int pp]) (n := 4) (Nat.le_of_ble_eq_true rfl)
  rw [lg_entry_eq]
  generalize (lg_sl ([.ref x, .int dd, .int pp]) ++ List.replicate (4 - (lg_sl ([.ref x, .int dd, .int pp])).length) Slot.unset).toArray = ls at hl ⊢
  have hl : lv_has ls 4 [(0, .ref x), (1, .int dd), (2, .int pp)] := hl
  refine lv_aload_n (pc := 0) hx hb dV_undo_0 rfl (lv_at hl 0 rfl) ?_
  refine va_csv (pc := 1) (W.runV (As := []) (rest := []) ⟨hx, hb, hml, hown, hts⟩ (v_needPower l dC dI x rt dr bs df ch pg rs) (cwV 0 hts (gV wd_70 wd_71 wd_72 wd_35 wd_69) rfl rfl rfl (by decide +kernel) ⟨Nat.le_of_ble_eq_true rfl, Nat.le_of_ble_eq_true rfl⟩) ⟨pR_blind, va_recv (q := (RV, TV, 9)) (q0 := 0) (ci := 0) hK hP rfl rfl, pR_pre (hP.sub (ws' := [(x, .inr (0, [.ref rt, .ref dr, .int 0, .int 0, .ref bs, .ref df, .ref ch, .ref pg, .int rs])), (pg, .inr (3, [.int 400, .int 0, .int 0, .int 0, .int 0, .int 0]))]) [0, 2] rfl) (hK.sub (tys' := []) [] rfl)⟩ rfl rfl hl.1 rfl (lv_room (Nat.le_of_ble_eq_true rfl)) dV_undo_1 ⟨Nat.le_of_ble_eq_true rfl, Nat.le_of_ble_eq_true rfl⟩) (fun hr2 => ?_)
  refine lv_aload_n (pc := 4) hx hb dV_undo_4 rfl (lv_at hl 0 rfl) ?_
  refine lv_iload_n (pc := 5) hx hb dV_undo_5 rfl (lv_at hl 1 rfl) ?_
  refine va_csq (pc := 6) (W.runV (As := [.int dd]) (rest := []) ⟨hx, hb, hml, hown, hts⟩ (v_drawingAt l dC dI x rt dr bs df ch pg rs dd) (cwV 1 hts (gV wd_41 wd_42 wd_43 wd_35 wd_40) rfl rfl rfl (by decide +kernel) ⟨Nat.le_of_ble_eq_true rfl, Nat.le_of_ble_eq_true rfl⟩) ⟨pR_blind, va_recv (q := (RV, TV, 9)) (q0 := 0) (ci := 0) hK hP rfl rfl, pR_pre (hP.sub (ws' := [(x, .inr (0, [.ref rt, .ref dr, .int 0, .int 0, .ref bs, .ref df, .ref ch, .ref pg, .int rs]))]) [0] rfl) (hK.sub (tys' := []) [] rfl)⟩ rfl rfl hl.1 rfl (lv_room (Nat.le_of_ble_eq_true rfl)) dV_undo_6 ⟨Nat.le_of_ble_eq_true rfl, Nat.le_of_ble_eq_true rfl⟩) (fun r3 hr4 => ?_)
  obtain rfl : r3 = none := hr4
  refine W.eq (g2 := F0 m 9 ls [.null]) rfl ?_
  refine lv_astore_nN (pc := 9) hx hb dV_undo_9 rfl hl (by decide) rfl (fun ls hl => ?_)
  have hl : lv_has ls 4 [(3, .null), (0, .ref x), (1, .int dd), (2, .int pp)] := hl
  refine lv_aload_n (pc := 10) hx hb dV_undo_10 rfl (lv_at hl 1 rfl) ?_
  refine lv_aload_n (pc := 11) hx hb dV_undo_11 rfl (lv_at hl 1 rfl) ?_
  refine lv_aload_nN (pc := 12) hx hb dV_undo_12 rfl (lv_at hl 0 rfl) ?_
  refine lv_iload_n (pc := 13) hx hb dV_undo_13 rfl (lv_at hl 3 rfl) ?_
  refine vp_callSi (pc := 14) (W.runV (As := [.null, .int pp]) (rest := [.ref x]) ⟨hx, hb, hml, hown, hts⟩ (v_copyRefusal l dC dI x rt dr bs df ch pg rs cR pp) (cwV 2 hts (gV wd_82 wd_83 wd_84 wd_35 wd_81) rfl rfl rfl (by decide +kernel) ⟨Nat.le_of_ble_eq_true rfl, Nat.le_of_ble_eq_true rfl⟩) ⟨pR_blind, va_recv (q := (RV, TV, 9)) (q0 := 0) (ci := 0) hK hP rfl rfl, pR_pre (hP.sub (ws' := [(x, .inr (0, [.ref rt, .ref dr, .int 0, .int 0, .ref bs, .ref df, .ref ch, .ref pg, .int rs])), (rt, .inl (cR, 16, .inl (fun _ => 0)))]) [0, 1] rfl) (hK.sub (tys' := [(cR, .int)]) [0] rfl)⟩ rfl rfl hl.1 rfl (lv_room (Nat.le_of_ble_eq_true rfl)) dV_undo_14 ⟨Nat.le_of_ble_eq_true rfl, Nat.le_of_ble_eq_true rfl⟩) (fun r5 hr6 => ?_)
  obtain rfl : r5 = 1 := hr6
  refine lv_iconst (pc := 17) (v := 1) hx hb dV_undo_17 (by decide) ?_
  have hPc := hP.sub (ws' := [(x, .inr (0, [.ref rt, .ref dr, .int 0, .int 0, .ref bs, .ref df, .ref ch, .ref pg, .int rs]))]) [0] rfl
  have hDc := hD.sub (ws' := [(x, .inr (0, [.ref rt, .ref dr, .int 0, .int 0, .ref bs, .ref df, .ref ch, .ref pg, .int rs]))]) [0] (by decide) rfl
  have hKc := hK.sub (tys' := []) [] rfl
  have hFc := va_free (wc := [(x, .inr (0, [.ref rt, .ref dr, .int 0, .int 0, .ref bs, .ref df, .ref ch, .ref pg, .int rs]))]) hD hS hA [0] rfl
  refine va_calli (pc := 18) (va_runV (As := [.int 1, .int 1]) (rest := []) ⟨hx, hb, hml, hown, hts⟩ (v_mayWrite l dC dI H.size x rt dr bs df ch pg rs 1 1 (by decide)) (cwV 2 hts (gV wd_66 wd_67 wd_68 wd_35 wd_65) rfl rfl rfl (by decide +kernel) ⟨Nat.le_of_ble_eq_true rfl, Nat.le_of_ble_eq_true rfl⟩) ⟨pW_blind, va_recv (q := (RV, TV, 9)) (q0 := 0) (ci := 0) hK hP rfl rfl, pW_pre hPc hKc hDc⟩ rfl rfl hl.1 rfl (lv_room (Nat.le_of_ble_eq_true rfl)) dV_undo_18 ⟨Nat.le_of_ble_eq_true rfl, Nat.le_of_ble_eq_true rfl⟩) hS (fun q _ h => hFc q h) hFc (fun r7 u t H1 locs ht hvm hr8 hB hz1 hk1 hS => ?_)
  obtain ⟨hP1, hK1, hD1⟩ := hB
  rw [ht] at hP1
  have hK1 := va_K.moved hvm.symm hK1
  obtain ⟨hP, hD⟩ := va_join (wr := [(rt, .inl (cR, 16, .inl (fun _ => 0))), (pg, .inr (3, [.int 400, .int 0, .int 0, .int 0, .int 0, .int 0]))]) (w1 := [(x, .inr (0, [.ref rt, .ref dr, .int 0, .int 0, .ref bs, .ref df, .ref ch, .ref pg, .int 1]))]) hP hD [0] [1, 2] rfl rfl (by decide) (by decide) hk1 hFc hP1 hD1
  generalize H1 = H at hP hS ⊢
  have hP : va_P (dC, dI) kCl [(rt, .inl (cR, 16, .inl (fun _ => 0))), (pg, .inr (3, [.int 400, .int 0, .int 0, .int 0, .int 0, .int 0])), (x, .inr (0, [.ref rt, .ref dr, .int 0, .int 0, .ref bs, .ref df, .ref ch, .ref pg, .int 1]))] H := hP
  have hD : va_D A [(rt, .inl (cR, 16, .inl (fun _ => 0))), (pg, .inr (3, [.int 400, .int 0, .int 0, .int 0, .int 0, .int 0])), (x, .inr (0, [.ref rt, .ref dr, .int 0, .int 0, .ref bs, .ref df, .ref ch, .ref pg, .int 1]))] := hD
  refine W.widen (k := 0) (n := 0) (Nat.le_of_ble_eq_true rfl) (Nat.le_of_ble_eq_true rfl) ?_
  obtain rfl : r7 = 0 := hr8
  refine lv_if_ne (pc := 21) (tgt := 26) hx hb dV_undo_21 rfl (fun h10 => absurd h10 (by decide)) (fun h10 => ?_)
  refine lv_iconst (pc := 24) (v := 0) hx hb dV_undo_24 (by decide) ?_
  have hP9 := hP.sub (ws' := []) [] rfl
  have hD9 := hD.sub (ws' := []) [] (by decide) rfl
  have hK9 := hK.sub (tys' := []) [] rfl
  exact W.zret (pc := 25) hx hb hr rfl (fun t ht hW => ⟨⟨_, (), rfl, rfl, by rw [ht]; exact hP9, va_K.moved hW.alike hK9, hD9⟩, hS.F ht⟩) hS.2.2 dV_undo_25
set_option maxHeartbeats 4000000 in
set_option maxRecDepth 100000 in
theorem v_put (l : Launch) (dC : Nat → ClassId) (dI : Nat → Nat → Nat) (sz : Nat) (x : Nat) (rt : Nat) (dr : Nat) (bs : Nat) (df : Nat) (ch : Nat) (pg : Nat) (rs : Int32) (cR : ClassId) (dd : Int32) (pp : Int32) (ta : Int32) (va : Int32) : Met l yV_put (.code yV_put cV_put 7 (some .boolean) :: aw) ({ frames := 3, cells := 0, slots := 0, locals := 64 }) (pW (dC, dI) sz [(x, .inr (0, [.ref rt, .ref dr, .int 0, .int 0, .ref bs, .ref df, .ref ch, .ref pg, .int rs])), (rt, .inl (cR, 16, .inl (fun _ => 0))), (pg, .inr (3, [.int 400, .int 0, .int 0, .int 0, .int 0, .int 0]))] [(cR, .int)] [.ref x, .int dd, .int pp, .int ta, .int va]) (va_Qi (fun r (_ : Unit) => r = 0) (fun _ t => wW (dC, dI) (va_A [(x, .inr (0, [.ref rt, .ref dr, .int 0, .int 0, .ref bs, .ref df, .ref ch, .ref pg, .int rs])), (rt, .inl (cR, 16, .inl (fun _ => 0))), (pg, .inr (3, [.int 400, .int 0, .int 0, .int 0, .int 0, .int 0]))] sz) [] [] t) (va_A [(x, .inr (0, [.ref rt, .ref dr, .int 0, .int 0, .ref bs, .ref df, .ref ch, .ref pg, .int rs])), (rt, .inl (cR, 16, .inl (fun _ => 0))), (pg, .inr (3, [.int 400, .int 0, .int 0, .int 0, .int 0, .int 0]))] sz)) 0 0 (va_A [(x, .inr (0, [.ref rt, .ref dr, .int 0, .int 0, .ref bs, .ref df, .ref ch, .ref pg, .int rs])), (rt, .inl (cR, 16, .inl (fun _ => 0))), (pg, .inr (3, [.int 400, .int 0, .int 0, .int 0, .int 0, .int 0]))] sz) := by
  refine Met.ofW (cc := cV_put) (maxL := 7) (ret := (some .boolean)) (by decide) rfl ?_
  intro p e s m args below meth c s₁ B hml hv
  obtain ⟨rfl, hv⟩ := hv
  have hx := B.exec
  have hb := B.bytes
  have hr := B.returns
  have hts : ∀ w ∈ aw, w.before _ s = true := fun w h => atoms_spec (ws := (.code yV_put cV_put 7 (some .boolean) :: aw)) B.pre w (List.mem_cons_of_mem _ h)
  have hown : s.vm.findClass RV = some m.cls := findClass_of_methodNamed B.named
  have hlocks := B.notSynchronized
  obtain ⟨hsz, hP, hK, hD0⟩ := hv
  subst hsz
  have hD := hD0.self (sz := s.heap.size)
  generalize hAe : va_A [(x, .inr (0, [.ref rt, .ref dr, .int 0, .int 0, .ref bs, .ref df, .ref ch, .ref pg, .int rs])), (rt, .inl (cR, 16, .inl (fun _ => 0))), (pg, .inr (3, [.int 400, .int 0, .int 0, .int 0, .int 0, .int 0]))] s.heap.size = A at hD ⊢
  have hA : ∀ q : Nat, s.heap.size ≤ q → A q := fun q h => by rw [← hAe]; exact Or.inr h
  obtain ⟨H, hH⟩ : ∃ H, H = s.heap := ⟨_, rfl⟩
  have hS : va_S A s.heap H [] := by rw [hH]; exact va_S.rf
  rw [← hH] at hP ⊢
  have hP : va_P (dC, dI) kCl [(x, .inr (0, [.ref rt, .ref dr, .int 0, .int 0, .ref bs, .ref df, .ref ch, .ref pg, .int rs])), (rt, .inl (cR, 16, .inl (fun _ => 0))), (pg, .inr (3, [.int 400, .int 0, .int 0, .int 0, .int 0, .int 0]))] H := hP
  have hl := lv_entry ([.ref x, .int dd, .int pp, .int ta, .int va]) (n := 7) (Nat.le_of_ble_eq_true rfl)
  rw [lg_entry_eq]
  generalize (lg_sl ([.ref x, .int dd, .int pp, .int ta, .int va]) ++ List.replicate (7 - (lg_sl ([.ref x, .int dd, .int pp, .int ta, .int va])).length) Slot.unset).toArray = ls at hl ⊢
  have hl : lv_has ls 7 [(0, .ref x), (1, .int dd), (2, .int pp), (3, .int ta), (4, .int va)] := hl
  refine lv_aload_n (pc := 0) hx hb dV_put_0 rfl (lv_at hl 0 rfl) ?_
  refine va_csv (pc := 1) (W.runV (As := []) (rest := []) ⟨hx, hb, hml, hown, hts⟩ (v_needPower l dC dI x rt dr bs df ch pg rs) (cwV 0 hts (gV wd_70 wd_71 wd_72 wd_35 wd_69) rfl rfl rfl (by decide +kernel) ⟨Nat.le_of_ble_eq_true rfl, Nat.le_of_ble_eq_true rfl⟩) ⟨pR_blind, va_recv (q := (RV, TV, 9)) (q0 := 0) (ci := 0) hK hP rfl rfl, pR_pre (hP.sub (ws' := [(x, .inr (0, [.ref rt, .ref dr, .int 0, .int 0, .ref bs, .ref df, .ref ch, .ref pg, .int rs])), (pg, .inr (3, [.int 400, .int 0, .int 0, .int 0, .int 0, .int 0]))]) [0, 2] rfl) (hK.sub (tys' := []) [] rfl)⟩ rfl rfl hl.1 rfl (lv_room (Nat.le_of_ble_eq_true rfl)) dV_put_1 ⟨Nat.le_of_ble_eq_true rfl, Nat.le_of_ble_eq_true rfl⟩) (fun hr2 => ?_)
  refine lv_aload_n (pc := 4) hx hb dV_put_4 rfl (lv_at hl 0 rfl) ?_
  refine lv_iload_n (pc := 5) hx hb dV_put_5 rfl (lv_at hl 1 rfl) ?_
  refine va_csq (pc := 6) (W.runV (As := [.int dd]) (rest := []) ⟨hx, hb, hml, hown, hts⟩ (v_drawingAt l dC dI x rt dr bs df ch pg rs dd) (cwV 1 hts (gV wd_41 wd_42 wd_43 wd_35 wd_40) rfl rfl rfl (by decide +kernel) ⟨Nat.le_of_ble_eq_true rfl, Nat.le_of_ble_eq_true rfl⟩) ⟨pR_blind, va_recv (q := (RV, TV, 9)) (q0 := 0) (ci := 0) hK hP rfl rfl, pR_pre (hP.sub (ws' := [(x, .inr (0, [.ref rt, .ref dr, .int 0, .int 0, .ref bs, .ref df, .ref ch, .ref pg, .int rs]))]) [0] rfl) (hK.sub (tys' := []) [] rfl)⟩ rfl rfl hl.1 rfl (lv_room (Nat.le_of_ble_eq_true rfl)) dV_put_6 ⟨Nat.le_of_ble_eq_true rfl, Nat.le_of_ble_eq_true rfl⟩) (fun r3 hr4 => ?_)
  obtain rfl : r3 = none := hr4
  refine W.eq (g2 := F0 m 9 ls [.null]) rfl ?_
  refine lv_astoreN (pc := 9) hx hb dV_put_9 hl (by decide) rfl (fun ls hl => ?_)
  have hl : lv_has ls 7 [(5, .null), (0, .ref x), (1, .int dd), (2, .int pp), (3, .int ta), (4, .int va)] := hl
  refine lv_aload_n (pc := 11) hx hb dV_put_11 rfl (lv_at hl 1 rfl) ?_
  refine lv_aloadN (pc := 12) hx hb dV_put_12 (lv_at hl 0 rfl) ?_
  refine lv_iload_n (pc := 14) hx hb dV_put_14 rfl (lv_at hl 3 rfl) ?_
  refine vp_callSi (pc := 15) (W.runV (As := [.null, .int pp]) (rest := []) ⟨hx, hb, hml, hown, hts⟩ (v_copyRefusal l dC dI x rt dr bs df ch pg rs cR pp) (cwV 2 hts (gV wd_82 wd_83 wd_84 wd_35 wd_81) rfl rfl rfl (by decide +kernel) ⟨Nat.le_of_ble_eq_true rfl, Nat.le_of_ble_eq_true rfl⟩) ⟨pR_blind, va_recv (q := (RV, TV, 9)) (q0 := 0) (ci := 0) hK hP rfl rfl, pR_pre (hP.sub (ws' := [(x, .inr (0, [.ref rt, .ref dr, .int 0, .int 0, .ref bs, .ref df, .ref ch, .ref pg, .int rs])), (rt, .inl (cR, 16, .inl (fun _ => 0)))]) [0, 1] rfl) (hK.sub (tys' := [(cR, .int)]) [0] rfl)⟩ rfl rfl hl.1 rfl (lv_room (Nat.le_of_ble_eq_true rfl)) dV_put_15 ⟨Nat.le_of_ble_eq_true rfl, Nat.le_of_ble_eq_true rfl⟩) (fun r5 hr6 => ?_)
  obtain rfl : r5 = 1 := hr6
  refine lv_istore (pc := 18) hx hb dV_put_18 hl (by decide) rfl (fun ls hl => ?_)
  have hl : lv_has ls 7 [(6, .int 1), (5, .null), (0, .ref x), (1, .int dd), (2, .int pp), (3, .int ta), (4, .int va)] := hl
  refine lv_iload (pc := 20) hx hb dV_put_20 (lv_at hl 0 rfl) ?_
  refine lv_if_ne (pc := 22) (tgt := 54) hx hb dV_put_22 rfl (fun h7 => ?_) (fun h7 => absurd h7 (by decide))
  refine lv_aload_n (pc := 54) hx hb dV_put_54 rfl (lv_at hl 2 rfl) ?_
  refine lv_iload (pc := 55) hx hb dV_put_55 (lv_at hl 0 rfl) ?_
  have hPc := hP.sub (ws' := [(x, .inr (0, [.ref rt, .ref dr, .int 0, .int 0, .ref bs, .ref df, .ref ch, .ref pg, .int rs]))]) [0] rfl
  have hDc := hD.sub (ws' := [(x, .inr (0, [.ref rt, .ref dr, .int 0, .int 0, .ref bs, .ref df, .ref ch, .ref pg, .int rs]))]) [0] (by decide) rfl
  have hKc := hK.sub (tys' := []) [] rfl
  have hFc := va_free (wc := [(x, .inr (0, [.ref rt, .ref dr, .int 0, .int 0, .ref bs, .ref df, .ref ch, .ref pg, .int rs]))]) hD hS hA [0] rfl
  refine va_calli (pc := 57) (va_runV (As := [.int 1]) (rest := []) ⟨hx, hb, hml, hown, hts⟩ (v_allowed l dC dI H.size x rt dr bs df ch pg rs 1 (by decide)) (cwV 1 hts (gV wd_62 wd_63 wd_64 wd_35 wd_61) rfl rfl rfl (by decide +kernel) ⟨Nat.le_of_ble_eq_true rfl, Nat.le_of_ble_eq_true rfl⟩) ⟨pW_blind, va_recv (q := (RV, TV, 9)) (q0 := 0) (ci := 0) hK hP rfl rfl, pW_pre hPc hKc hDc⟩ rfl rfl hl.1 rfl (lv_room (Nat.le_of_ble_eq_true rfl)) dV_put_57 ⟨Nat.le_of_ble_eq_true rfl, Nat.le_of_ble_eq_true rfl⟩) hS (fun q _ h => hFc q h) hFc (fun r8 u t H1 locs ht hvm hr9 hB hz1 hk1 hS => ?_)
  obtain ⟨hP1, hK1, hD1⟩ := hB
  rw [ht] at hP1
  have hK1 := va_K.moved hvm.symm hK1
  obtain ⟨hP, hD⟩ := va_join (wr := [(rt, .inl (cR, 16, .inl (fun _ => 0))), (pg, .inr (3, [.int 400, .int 0, .int 0, .int 0, .int 0, .int 0]))]) (w1 := [(x, .inr (0, [.ref rt, .ref dr, .int 0, .int 0, .ref bs, .ref df, .ref ch, .ref pg, .int 1]))]) hP hD [0] [1, 2] rfl rfl (by decide) (by decide) hk1 hFc hP1 hD1
  generalize H1 = H at hP hS ⊢
  have hP : va_P (dC, dI) kCl [(rt, .inl (cR, 16, .inl (fun _ => 0))), (pg, .inr (3, [.int 400, .int 0, .int 0, .int 0, .int 0, .int 0])), (x, .inr (0, [.ref rt, .ref dr, .int 0, .int 0, .ref bs, .ref df, .ref ch, .ref pg, .int 1]))] H := hP
  have hD : va_D A [(rt, .inl (cR, 16, .inl (fun _ => 0))), (pg, .inr (3, [.int 400, .int 0, .int 0, .int 0, .int 0, .int 0])), (x, .inr (0, [.ref rt, .ref dr, .int 0, .int 0, .ref bs, .ref df, .ref ch, .ref pg, .int 1]))] := hD
  refine W.widen (k := 0) (n := 0) (Nat.le_of_ble_eq_true rfl) (Nat.le_of_ble_eq_true rfl) ?_
  obtain rfl : r8 = 0 := hr9
  refine lv_if_ne (pc := 60) (tgt := 65) hx hb dV_put_60 rfl (fun h11 => absurd h11 (by decide)) (fun h11 => ?_)
  refine lv_iconst (pc := 63) (v := 0) hx hb dV_put_63 (by decide) ?_
  have hP9 := hP.sub (ws' := []) [] rfl
  have hD9 := hD.sub (ws' := []) [] (by decide) rfl
  have hK9 := hK.sub (tys' := []) [] rfl
  exact W.zret (pc := 64) hx hb hr rfl (fun t ht hW => ⟨⟨_, (), rfl, rfl, by rw [ht]; exact hP9, va_K.moved hW.alike hK9, hD9⟩, hS.F ht⟩) hS.2.2 dV_put_64
set_option maxHeartbeats 4000000 in
set_option maxRecDepth 100000 in
theorem v_resize (l : Launch) (dC : Nat → ClassId) (dI : Nat → Nat → Nat) (sz : Nat) (x : Nat) (rt : Nat) (dr : Nat) (bs : Nat) (df : Nat) (ch : Nat) (pg : Nat) (rs : Int32) (cR : ClassId) (dd : Int32) (pp : Int32) (bn : Int32) : Met l yV_resize (.code yV_resize cV_resize 6 (some .boolean) :: aw) ({ frames := 3, cells := 0, slots := 0, locals := 64 }) (pW (dC, dI) sz [(x, .inr (0, [.ref rt, .ref dr, .int 0, .int 0, .ref bs, .ref df, .ref ch, .ref pg, .int rs])), (rt, .inl (cR, 16, .inl (fun _ => 0))), (pg, .inr (3, [.int 400, .int 0, .int 0, .int 0, .int 0, .int 0]))] [(cR, .int)] [.ref x, .int dd, .int pp, .int bn]) (va_Qi (fun r (_ : Unit) => r = 0) (fun _ t => wW (dC, dI) (va_A [(x, .inr (0, [.ref rt, .ref dr, .int 0, .int 0, .ref bs, .ref df, .ref ch, .ref pg, .int rs])), (rt, .inl (cR, 16, .inl (fun _ => 0))), (pg, .inr (3, [.int 400, .int 0, .int 0, .int 0, .int 0, .int 0]))] sz) [] [] t) (va_A [(x, .inr (0, [.ref rt, .ref dr, .int 0, .int 0, .ref bs, .ref df, .ref ch, .ref pg, .int rs])), (rt, .inl (cR, 16, .inl (fun _ => 0))), (pg, .inr (3, [.int 400, .int 0, .int 0, .int 0, .int 0, .int 0]))] sz)) 0 0 (va_A [(x, .inr (0, [.ref rt, .ref dr, .int 0, .int 0, .ref bs, .ref df, .ref ch, .ref pg, .int rs])), (rt, .inl (cR, 16, .inl (fun _ => 0))), (pg, .inr (3, [.int 400, .int 0, .int 0, .int 0, .int 0, .int 0]))] sz) := by
  refine Met.ofW (cc := cV_resize) (maxL := 6) (ret := (some .boolean)) (by decide) rfl ?_
  intro p e s m args below meth c s₁ B hml hv
  obtain ⟨rfl, hv⟩ := hv
  have hx := B.exec
  have hb := B.bytes
  have hr := B.returns
  have hts : ∀ w ∈ aw, w.before _ s = true := fun w h => atoms_spec (ws := (.code yV_resize cV_resize 6 (some .boolean) :: aw)) B.pre w (List.mem_cons_of_mem _ h)
  have hown : s.vm.findClass RV = some m.cls := findClass_of_methodNamed B.named
  have hlocks := B.notSynchronized
  obtain ⟨hsz, hP, hK, hD0⟩ := hv
  subst hsz
  have hD := hD0.self (sz := s.heap.size)
  generalize hAe : va_A [(x, .inr (0, [.ref rt, .ref dr, .int 0, .int 0, .ref bs, .ref df, .ref ch, .ref pg, .int rs])), (rt, .inl (cR, 16, .inl (fun _ => 0))), (pg, .inr (3, [.int 400, .int 0, .int 0, .int 0, .int 0, .int 0]))] s.heap.size = A at hD ⊢
  have hA : ∀ q : Nat, s.heap.size ≤ q → A q := fun q h => by rw [← hAe]; exact Or.inr h
  obtain ⟨H, hH⟩ : ∃ H, H = s.heap := ⟨_, rfl⟩
  have hS : va_S A s.heap H [] := by rw [hH]; exact va_S.rf
  rw [← hH] at hP ⊢
  have hP : va_P (dC, dI) kCl [(x, .inr (0, [.ref rt, .ref dr, .int 0, .int 0, .ref bs, .ref df, .ref ch, .ref pg, .int rs])), (rt, .inl (cR, 16, .inl (fun _ => 0))), (pg, .inr (3, [.int 400, .int 0, .int 0, .int 0, .int 0, .int 0]))] H := hP
  have hl := lv_entry ([.ref x, .int dd, .int pp, .int bn]) (n := 6) (Nat.le_of_ble_eq_true rfl)
  rw [lg_entry_eq]
  generalize (lg_sl ([.ref x, .int dd, .int pp, .int bn]) ++ List.replicate (6 - (lg_sl ([.ref x, .int dd, .int pp, .int bn])).length) Slot.unset).toArray = ls at hl ⊢
  have hl : lv_has ls 6 [(0, .ref x), (1, .int dd), (2, .int pp), (3, .int bn)] := hl
  refine lv_aload_n (pc := 0) hx hb dV_resize_0 rfl (lv_at hl 0 rfl) ?_
  refine va_csv (pc := 1) (W.runV (As := []) (rest := []) ⟨hx, hb, hml, hown, hts⟩ (v_needPower l dC dI x rt dr bs df ch pg rs) (cwV 0 hts (gV wd_70 wd_71 wd_72 wd_35 wd_69) rfl rfl rfl (by decide +kernel) ⟨Nat.le_of_ble_eq_true rfl, Nat.le_of_ble_eq_true rfl⟩) ⟨pR_blind, va_recv (q := (RV, TV, 9)) (q0 := 0) (ci := 0) hK hP rfl rfl, pR_pre (hP.sub (ws' := [(x, .inr (0, [.ref rt, .ref dr, .int 0, .int 0, .ref bs, .ref df, .ref ch, .ref pg, .int rs])), (pg, .inr (3, [.int 400, .int 0, .int 0, .int 0, .int 0, .int 0]))]) [0, 2] rfl) (hK.sub (tys' := []) [] rfl)⟩ rfl rfl hl.1 rfl (lv_room (Nat.le_of_ble_eq_true rfl)) dV_resize_1 ⟨Nat.le_of_ble_eq_true rfl, Nat.le_of_ble_eq_true rfl⟩) (fun hr2 => ?_)
  refine lv_aload_n (pc := 4) hx hb dV_resize_4 rfl (lv_at hl 0 rfl) ?_
  refine lv_iload_n (pc := 5) hx hb dV_resize_5 rfl (lv_at hl 1 rfl) ?_
  refine va_csq (pc := 6) (W.runV (As := [.int dd]) (rest := []) ⟨hx, hb, hml, hown, hts⟩ (v_drawingAt l dC dI x rt dr bs df ch pg rs dd) (cwV 1 hts (gV wd_41 wd_42 wd_43 wd_35 wd_40) rfl rfl rfl (by decide +kernel) ⟨Nat.le_of_ble_eq_true rfl, Nat.le_of_ble_eq_true rfl⟩) ⟨pR_blind, va_recv (q := (RV, TV, 9)) (q0 := 0) (ci := 0) hK hP rfl rfl, pR_pre (hP.sub (ws' := [(x, .inr (0, [.ref rt, .ref dr, .int 0, .int 0, .ref bs, .ref df, .ref ch, .ref pg, .int rs]))]) [0] rfl) (hK.sub (tys' := []) [] rfl)⟩ rfl rfl hl.1 rfl (lv_room (Nat.le_of_ble_eq_true rfl)) dV_resize_6 ⟨Nat.le_of_ble_eq_true rfl, Nat.le_of_ble_eq_true rfl⟩) (fun r3 hr4 => ?_)
  obtain rfl : r3 = none := hr4
  refine W.eq (g2 := F0 m 9 ls [.null]) rfl ?_
  refine lv_astoreN (pc := 9) hx hb dV_resize_9 hl (by decide) rfl (fun ls hl => ?_)
  have hl : lv_has ls 6 [(4, .null), (0, .ref x), (1, .int dd), (2, .int pp), (3, .int bn)] := hl
  refine lv_aload_n (pc := 11) hx hb dV_resize_11 rfl (lv_at hl 1 rfl) ?_
  refine lv_aloadN (pc := 12) hx hb dV_resize_12 (lv_at hl 0 rfl) ?_
  refine lv_iload_n (pc := 14) hx hb dV_resize_14 rfl (lv_at hl 3 rfl) ?_
  refine vp_callSi (pc := 15) (W.runV (As := [.null, .int pp]) (rest := []) ⟨hx, hb, hml, hown, hts⟩ (v_copyRefusal l dC dI x rt dr bs df ch pg rs cR pp) (cwV 2 hts (gV wd_82 wd_83 wd_84 wd_35 wd_81) rfl rfl rfl (by decide +kernel) ⟨Nat.le_of_ble_eq_true rfl, Nat.le_of_ble_eq_true rfl⟩) ⟨pR_blind, va_recv (q := (RV, TV, 9)) (q0 := 0) (ci := 0) hK hP rfl rfl, pR_pre (hP.sub (ws' := [(x, .inr (0, [.ref rt, .ref dr, .int 0, .int 0, .ref bs, .ref df, .ref ch, .ref pg, .int rs])), (rt, .inl (cR, 16, .inl (fun _ => 0)))]) [0, 1] rfl) (hK.sub (tys' := [(cR, .int)]) [0] rfl)⟩ rfl rfl hl.1 rfl (lv_room (Nat.le_of_ble_eq_true rfl)) dV_resize_15 ⟨Nat.le_of_ble_eq_true rfl, Nat.le_of_ble_eq_true rfl⟩) (fun r5 hr6 => ?_)
  obtain rfl : r5 = 1 := hr6
  refine lv_istore (pc := 18) hx hb dV_resize_18 hl (by decide) rfl (fun ls hl => ?_)
  have hl : lv_has ls 6 [(5, .int 1), (4, .null), (0, .ref x), (1, .int dd), (2, .int pp), (3, .int bn)] := hl
  refine lv_iload (pc := 20) hx hb dV_resize_20 (lv_at hl 0 rfl) ?_
  refine lv_if_ne (pc := 22) (tgt := 39) hx hb dV_resize_22 rfl (fun h7 => ?_) (fun h7 => absurd h7 (by decide))
  refine lv_aload_n (pc := 39) hx hb dV_resize_39 rfl (lv_at hl 2 rfl) ?_
  refine lv_iload (pc := 40) hx hb dV_resize_40 (lv_at hl 0 rfl) ?_
  have hPc := hP.sub (ws' := [(x, .inr (0, [.ref rt, .ref dr, .int 0, .int 0, .ref bs, .ref df, .ref ch, .ref pg, .int rs]))]) [0] rfl
  have hDc := hD.sub (ws' := [(x, .inr (0, [.ref rt, .ref dr, .int 0, .int 0, .ref bs, .ref df, .ref ch, .ref pg, .int rs]))]) [0] (by decide) rfl
  have hKc := hK.sub (tys' := []) [] rfl
  have hFc := va_free (wc := [(x, .inr (0, [.ref rt, .ref dr, .int 0, .int 0, .ref bs, .ref df, .ref ch, .ref pg, .int rs]))]) hD hS hA [0] rfl
  refine va_calli (pc := 42) (va_runV (As := [.int 1]) (rest := []) ⟨hx, hb, hml, hown, hts⟩ (v_allowed l dC dI H.size x rt dr bs df ch pg rs 1 (by decide)) (cwV 1 hts (gV wd_62 wd_63 wd_64 wd_35 wd_61) rfl rfl rfl (by decide +kernel) ⟨Nat.le_of_ble_eq_true rfl, Nat.le_of_ble_eq_true rfl⟩) ⟨pW_blind, va_recv (q := (RV, TV, 9)) (q0 := 0) (ci := 0) hK hP rfl rfl, pW_pre hPc hKc hDc⟩ rfl rfl hl.1 rfl (lv_room (Nat.le_of_ble_eq_true rfl)) dV_resize_42 ⟨Nat.le_of_ble_eq_true rfl, Nat.le_of_ble_eq_true rfl⟩) hS (fun q _ h => hFc q h) hFc (fun r8 u t H1 locs ht hvm hr9 hB hz1 hk1 hS => ?_)
  obtain ⟨hP1, hK1, hD1⟩ := hB
  rw [ht] at hP1
  have hK1 := va_K.moved hvm.symm hK1
  obtain ⟨hP, hD⟩ := va_join (wr := [(rt, .inl (cR, 16, .inl (fun _ => 0))), (pg, .inr (3, [.int 400, .int 0, .int 0, .int 0, .int 0, .int 0]))]) (w1 := [(x, .inr (0, [.ref rt, .ref dr, .int 0, .int 0, .ref bs, .ref df, .ref ch, .ref pg, .int 1]))]) hP hD [0] [1, 2] rfl rfl (by decide) (by decide) hk1 hFc hP1 hD1
  generalize H1 = H at hP hS ⊢
  have hP : va_P (dC, dI) kCl [(rt, .inl (cR, 16, .inl (fun _ => 0))), (pg, .inr (3, [.int 400, .int 0, .int 0, .int 0, .int 0, .int 0])), (x, .inr (0, [.ref rt, .ref dr, .int 0, .int 0, .ref bs, .ref df, .ref ch, .ref pg, .int 1]))] H := hP
  have hD : va_D A [(rt, .inl (cR, 16, .inl (fun _ => 0))), (pg, .inr (3, [.int 400, .int 0, .int 0, .int 0, .int 0, .int 0])), (x, .inr (0, [.ref rt, .ref dr, .int 0, .int 0, .ref bs, .ref df, .ref ch, .ref pg, .int 1]))] := hD
  refine W.widen (k := 0) (n := 0) (Nat.le_of_ble_eq_true rfl) (Nat.le_of_ble_eq_true rfl) ?_
  obtain rfl : r8 = 0 := hr9
  refine lv_if_ne (pc := 45) (tgt := 50) hx hb dV_resize_45 rfl (fun h11 => absurd h11 (by decide)) (fun h11 => ?_)
  refine lv_iconst (pc := 48) (v := 0) hx hb dV_resize_48 (by decide) ?_
  have hP9 := hP.sub (ws' := []) [] rfl
  have hD9 := hD.sub (ws' := []) [] (by decide) rfl
  have hK9 := hK.sub (tys' := []) [] rfl
  exact W.zret (pc := 49) hx hb hr rfl (fun t ht hW => ⟨⟨_, (), rfl, rfl, by rw [ht]; exact hP9, va_K.moved hW.alike hK9, hD9⟩, hS.F ht⟩) hS.2.2 dV_resize_49
set_option maxHeartbeats 4000000 in
set_option maxRecDepth 100000 in
theorem v_ref (l : Launch) (dC : Nat → ClassId) (dI : Nat → Nat → Nat) (sz : Nat) (x : Nat) (rt : Nat) (dr : Nat) (bs : Nat) (df : Nat) (ch : Nat) (pg : Nat) (rs : Int32) (cR : ClassId) (dd : Int32) (pp : Int32) (kk : Int32) (tg : Int32) (vv : Int32) : Met l yV_ref (.code yV_ref cV_ref 8 (some .boolean) :: aw) ({ frames := 3, cells := 0, slots := 0, locals := 64 }) (pW (dC, dI) sz [(x, .inr (0, [.ref rt, .ref dr, .int 0, .int 0, .ref bs, .ref df, .ref ch, .ref pg, .int rs])), (rt, .inl (cR, 16, .inl (fun _ => 0))), (pg, .inr (3, [.int 400, .int 0, .int 0, .int 0, .int 0, .int 0]))] [(cR, .int)] [.ref x, .int dd, .int pp, .int kk, .int tg, .int vv]) (va_Qi (fun r (_ : Unit) => r = 0) (fun _ t => wW (dC, dI) (va_A [(x, .inr (0, [.ref rt, .ref dr, .int 0, .int 0, .ref bs, .ref df, .ref ch, .ref pg, .int rs])), (rt, .inl (cR, 16, .inl (fun _ => 0))), (pg, .inr (3, [.int 400, .int 0, .int 0, .int 0, .int 0, .int 0]))] sz) [] [] t) (va_A [(x, .inr (0, [.ref rt, .ref dr, .int 0, .int 0, .ref bs, .ref df, .ref ch, .ref pg, .int rs])), (rt, .inl (cR, 16, .inl (fun _ => 0))), (pg, .inr (3, [.int 400, .int 0, .int 0, .int 0, .int 0, .int 0]))] sz)) 0 0 (va_A [(x, .inr (0, [.ref rt, .ref dr, .int 0, .int 0, .ref bs, .ref df, .ref ch, .ref pg, .int rs])), (rt, .inl (cR, 16, .inl (fun _ => 0))), (pg, .inr (3, [.int 400, .int 0, .int 0, .int 0, .int 0, .int 0]))] sz) := by
  refine Met.ofW (cc := cV_ref) (maxL := 8) (ret := (some .boolean)) (by decide) rfl ?_
  intro p e s m args below meth c s₁ B hml hv
  obtain ⟨rfl, hv⟩ := hv
  have hx := B.exec
  have hb := B.bytes
  have hr := B.returns
  have hts : ∀ w ∈ aw, w.before _ s = true := fun w h => atoms_spec (ws := (.code yV_ref cV_ref 8 (some .boolean) :: aw)) B.pre w (List.mem_cons_of_mem _ h)
  have hown : s.vm.findClass RV = some m.cls := findClass_of_methodNamed B.named
  have hlocks := B.notSynchronized
  obtain ⟨hsz, hP, hK, hD0⟩ := hv
  subst hsz
  have hD := hD0.self (sz := s.heap.size)
  generalize hAe : va_A [(x, .inr (0, [.ref rt, .ref dr, .int 0, .int 0, .ref bs, .ref df, .ref ch, .ref pg, .int rs])), (rt, .inl (cR, 16, .inl (fun _ => 0))), (pg, .inr (3, [.int 400, .int 0, .int 0, .int 0, .int 0, .int 0]))] s.heap.size = A at hD ⊢
  have hA : ∀ q : Nat, s.heap.size ≤ q → A q := fun q h => by rw [← hAe]; exact Or.inr h
  obtain ⟨H, hH⟩ : ∃ H, H = s.heap := ⟨_, rfl⟩
  have hS : va_S A s.heap H [] := by rw [hH]; exact va_S.rf
  rw [← hH] at hP ⊢
  have hP : va_P (dC, dI) kCl [(x, .inr (0, [.ref rt, .ref dr, .int 0, .int 0, .ref bs, .ref df, .ref ch, .ref pg, .int rs])), (rt, .inl (cR, 16, .inl (fun _ => 0))), (pg, .inr (3, [.int 400, .int 0, .int 0, .int 0, .int 0, .int 0]))] H := hP
  have hl := lv_entry ([.ref x, .int dd, .int pp, .int kk, .int tg, .int vv]) (n := 8) (Nat.le_of_ble_eq_true rfl)
  rw [lg_entry_eq]
  generalize (lg_sl ([.ref x, .int dd, .int pp, .int kk, .int tg, .int vv]) ++ List.replicate (8 - (lg_sl ([.ref x, .int dd, .int pp, .int kk, .int tg, .int vv])).length) Slot.unset).toArray = ls at hl ⊢
  have hl : lv_has ls 8 [(0, .ref x), (1, .int dd), (2, .int pp), (3, .int kk), (4, .int tg), (5, .int vv)] := hl
  refine lv_aload_n (pc := 0) hx hb dV_ref_0 rfl (lv_at hl 0 rfl) ?_
  refine va_csv (pc := 1) (W.runV (As := []) (rest := []) ⟨hx, hb, hml, hown, hts⟩ (v_needPower l dC dI x rt dr bs df ch pg rs) (cwV 0 hts (gV wd_70 wd_71 wd_72 wd_35 wd_69) rfl rfl rfl (by decide +kernel) ⟨Nat.le_of_ble_eq_true rfl, Nat.le_of_ble_eq_true rfl⟩) ⟨pR_blind, va_recv (q := (RV, TV, 9)) (q0 := 0) (ci := 0) hK hP rfl rfl, pR_pre (hP.sub (ws' := [(x, .inr (0, [.ref rt, .ref dr, .int 0, .int 0, .ref bs, .ref df, .ref ch, .ref pg, .int rs])), (pg, .inr (3, [.int 400, .int 0, .int 0, .int 0, .int 0, .int 0]))]) [0, 2] rfl) (hK.sub (tys' := []) [] rfl)⟩ rfl rfl hl.1 rfl (lv_room (Nat.le_of_ble_eq_true rfl)) dV_ref_1 ⟨Nat.le_of_ble_eq_true rfl, Nat.le_of_ble_eq_true rfl⟩) (fun hr2 => ?_)
  refine lv_aload_n (pc := 4) hx hb dV_ref_4 rfl (lv_at hl 0 rfl) ?_
  refine lv_iload_n (pc := 5) hx hb dV_ref_5 rfl (lv_at hl 1 rfl) ?_
  refine va_csq (pc := 6) (W.runV (As := [.int dd]) (rest := []) ⟨hx, hb, hml, hown, hts⟩ (v_drawingAt l dC dI x rt dr bs df ch pg rs dd) (cwV 1 hts (gV wd_41 wd_42 wd_43 wd_35 wd_40) rfl rfl rfl (by decide +kernel) ⟨Nat.le_of_ble_eq_true rfl, Nat.le_of_ble_eq_true rfl⟩) ⟨pR_blind, va_recv (q := (RV, TV, 9)) (q0 := 0) (ci := 0) hK hP rfl rfl, pR_pre (hP.sub (ws' := [(x, .inr (0, [.ref rt, .ref dr, .int 0, .int 0, .ref bs, .ref df, .ref ch, .ref pg, .int rs]))]) [0] rfl) (hK.sub (tys' := []) [] rfl)⟩ rfl rfl hl.1 rfl (lv_room (Nat.le_of_ble_eq_true rfl)) dV_ref_6 ⟨Nat.le_of_ble_eq_true rfl, Nat.le_of_ble_eq_true rfl⟩) (fun r3 hr4 => ?_)
  obtain rfl : r3 = none := hr4
  refine W.eq (g2 := F0 m 9 ls [.null]) rfl ?_
  refine lv_astoreN (pc := 9) hx hb dV_ref_9 hl (by decide) rfl (fun ls hl => ?_)
  have hl : lv_has ls 8 [(6, .null), (0, .ref x), (1, .int dd), (2, .int pp), (3, .int kk), (4, .int tg), (5, .int vv)] := hl
  refine lv_aload_n (pc := 11) hx hb dV_ref_11 rfl (lv_at hl 1 rfl) ?_
  refine lv_aloadN (pc := 12) hx hb dV_ref_12 (lv_at hl 0 rfl) ?_
  refine lv_iload_n (pc := 14) hx hb dV_ref_14 rfl (lv_at hl 3 rfl) ?_
  refine vp_callSi (pc := 15) (W.runV (As := [.null, .int pp]) (rest := []) ⟨hx, hb, hml, hown, hts⟩ (v_copyRefusal l dC dI x rt dr bs df ch pg rs cR pp) (cwV 2 hts (gV wd_82 wd_83 wd_84 wd_35 wd_81) rfl rfl rfl (by decide +kernel) ⟨Nat.le_of_ble_eq_true rfl, Nat.le_of_ble_eq_true rfl⟩) ⟨pR_blind, va_recv (q := (RV, TV, 9)) (q0 := 0) (ci := 0) hK hP rfl rfl, pR_pre (hP.sub (ws' := [(x, .inr (0, [.ref rt, .ref dr, .int 0, .int 0, .ref bs, .ref df, .ref ch, .ref pg, .int rs])), (rt, .inl (cR, 16, .inl (fun _ => 0)))]) [0, 1] rfl) (hK.sub (tys' := [(cR, .int)]) [0] rfl)⟩ rfl rfl hl.1 rfl (lv_room (Nat.le_of_ble_eq_true rfl)) dV_ref_15 ⟨Nat.le_of_ble_eq_true rfl, Nat.le_of_ble_eq_true rfl⟩) (fun r5 hr6 => ?_)
  obtain rfl : r5 = 1 := hr6
  refine lv_istore (pc := 18) hx hb dV_ref_18 hl (by decide) rfl (fun ls hl => ?_)
  have hl : lv_has ls 8 [(7, .int 1), (6, .null), (0, .ref x), (1, .int dd), (2, .int pp), (3, .int kk), (4, .int tg), (5, .int vv)] := hl
  refine lv_iload (pc := 20) hx hb dV_ref_20 (lv_at hl 0 rfl) ?_
  refine lv_if_ne (pc := 22) (tgt := 41) hx hb dV_ref_22 rfl (fun h7 => ?_) (fun h7 => absurd h7 (by decide))
  refine lv_aload_n (pc := 41) hx hb dV_ref_41 rfl (lv_at hl 2 rfl) ?_
  refine lv_iload (pc := 42) hx hb dV_ref_42 (lv_at hl 0 rfl) ?_
  have hPc := hP.sub (ws' := [(x, .inr (0, [.ref rt, .ref dr, .int 0, .int 0, .ref bs, .ref df, .ref ch, .ref pg, .int rs]))]) [0] rfl
  have hDc := hD.sub (ws' := [(x, .inr (0, [.ref rt, .ref dr, .int 0, .int 0, .ref bs, .ref df, .ref ch, .ref pg, .int rs]))]) [0] (by decide) rfl
  have hKc := hK.sub (tys' := []) [] rfl
  have hFc := va_free (wc := [(x, .inr (0, [.ref rt, .ref dr, .int 0, .int 0, .ref bs, .ref df, .ref ch, .ref pg, .int rs]))]) hD hS hA [0] rfl
  refine va_calli (pc := 44) (va_runV (As := [.int 1]) (rest := []) ⟨hx, hb, hml, hown, hts⟩ (v_allowed l dC dI H.size x rt dr bs df ch pg rs 1 (by decide)) (cwV 1 hts (gV wd_62 wd_63 wd_64 wd_35 wd_61) rfl rfl rfl (by decide +kernel) ⟨Nat.le_of_ble_eq_true rfl, Nat.le_of_ble_eq_true rfl⟩) ⟨pW_blind, va_recv (q := (RV, TV, 9)) (q0 := 0) (ci := 0) hK hP rfl rfl, pW_pre hPc hKc hDc⟩ rfl rfl hl.1 rfl (lv_room (Nat.le_of_ble_eq_true rfl)) dV_ref_44 ⟨Nat.le_of_ble_eq_true rfl, Nat.le_of_ble_eq_true rfl⟩) hS (fun q _ h => hFc q h) hFc (fun r8 u t H1 locs ht hvm hr9 hB hz1 hk1 hS => ?_)
  obtain ⟨hP1, hK1, hD1⟩ := hB
  rw [ht] at hP1
  have hK1 := va_K.moved hvm.symm hK1
  obtain ⟨hP, hD⟩ := va_join (wr := [(rt, .inl (cR, 16, .inl (fun _ => 0))), (pg, .inr (3, [.int 400, .int 0, .int 0, .int 0, .int 0, .int 0]))]) (w1 := [(x, .inr (0, [.ref rt, .ref dr, .int 0, .int 0, .ref bs, .ref df, .ref ch, .ref pg, .int 1]))]) hP hD [0] [1, 2] rfl rfl (by decide) (by decide) hk1 hFc hP1 hD1
  generalize H1 = H at hP hS ⊢
  have hP : va_P (dC, dI) kCl [(rt, .inl (cR, 16, .inl (fun _ => 0))), (pg, .inr (3, [.int 400, .int 0, .int 0, .int 0, .int 0, .int 0])), (x, .inr (0, [.ref rt, .ref dr, .int 0, .int 0, .ref bs, .ref df, .ref ch, .ref pg, .int 1]))] H := hP
  have hD : va_D A [(rt, .inl (cR, 16, .inl (fun _ => 0))), (pg, .inr (3, [.int 400, .int 0, .int 0, .int 0, .int 0, .int 0])), (x, .inr (0, [.ref rt, .ref dr, .int 0, .int 0, .ref bs, .ref df, .ref ch, .ref pg, .int 1]))] := hD
  refine W.widen (k := 0) (n := 0) (Nat.le_of_ble_eq_true rfl) (Nat.le_of_ble_eq_true rfl) ?_
  obtain rfl : r8 = 0 := hr9
  refine lv_if_ne (pc := 47) (tgt := 52) hx hb dV_ref_47 rfl (fun h11 => absurd h11 (by decide)) (fun h11 => ?_)
  refine lv_iconst (pc := 50) (v := 0) hx hb dV_ref_50 (by decide) ?_
  have hP9 := hP.sub (ws' := []) [] rfl
  have hD9 := hD.sub (ws' := []) [] (by decide) rfl
  have hK9 := hK.sub (tys' := []) [] rfl
  exact W.zret (pc := 51) hx hb hr rfl (fun t ht hW => ⟨⟨_, (), rfl, rfl, by rw [ht]; exact hP9, va_K.moved hW.alike hK9, hD9⟩, hS.F ht⟩) hS.2.2 dV_ref_51
set_option maxHeartbeats 4000000 in
set_option maxRecDepth 100000 in
theorem v_drop (l : Launch) (dC : Nat → ClassId) (dI : Nat → Nat → Nat) (sz : Nat) (x : Nat) (rt : Nat) (dr : Nat) (bs : Nat) (df : Nat) (ch : Nat) (pg : Nat) (rs : Int32) (cR : ClassId) (dd : Int32) (pp : Int32) (kk : Int32) : Met l yV_drop (.code yV_drop cV_drop 6 (some .boolean) :: aw) ({ frames := 3, cells := 0, slots := 0, locals := 64 }) (pW (dC, dI) sz [(x, .inr (0, [.ref rt, .ref dr, .int 0, .int 0, .ref bs, .ref df, .ref ch, .ref pg, .int rs])), (rt, .inl (cR, 16, .inl (fun _ => 0))), (pg, .inr (3, [.int 400, .int 0, .int 0, .int 0, .int 0, .int 0]))] [(cR, .int)] [.ref x, .int dd, .int pp, .int kk]) (va_Qi (fun r (_ : Unit) => r = 0) (fun _ t => wW (dC, dI) (va_A [(x, .inr (0, [.ref rt, .ref dr, .int 0, .int 0, .ref bs, .ref df, .ref ch, .ref pg, .int rs])), (rt, .inl (cR, 16, .inl (fun _ => 0))), (pg, .inr (3, [.int 400, .int 0, .int 0, .int 0, .int 0, .int 0]))] sz) [] [] t) (va_A [(x, .inr (0, [.ref rt, .ref dr, .int 0, .int 0, .ref bs, .ref df, .ref ch, .ref pg, .int rs])), (rt, .inl (cR, 16, .inl (fun _ => 0))), (pg, .inr (3, [.int 400, .int 0, .int 0, .int 0, .int 0, .int 0]))] sz)) 0 0 (va_A [(x, .inr (0, [.ref rt, .ref dr, .int 0, .int 0, .ref bs, .ref df, .ref ch, .ref pg, .int rs])), (rt, .inl (cR, 16, .inl (fun _ => 0))), (pg, .inr (3, [.int 400, .int 0, .int 0, .int 0, .int 0, .int 0]))] sz) := by
  refine Met.ofW (cc := cV_drop) (maxL := 6) (ret := (some .boolean)) (by decide) rfl ?_
  intro p e s m args below meth c s₁ B hml hv
  obtain ⟨rfl, hv⟩ := hv
  have hx := B.exec
  have hb := B.bytes
  have hr := B.returns
  have hts : ∀ w ∈ aw, w.before _ s = true := fun w h => atoms_spec (ws := (.code yV_drop cV_drop 6 (some .boolean) :: aw)) B.pre w (List.mem_cons_of_mem _ h)
  have hown : s.vm.findClass RV = some m.cls := findClass_of_methodNamed B.named
  have hlocks := B.notSynchronized
  obtain ⟨hsz, hP, hK, hD0⟩ := hv
  subst hsz
  have hD := hD0.self (sz := s.heap.size)
  generalize hAe : va_A [(x, .inr (0, [.ref rt, .ref dr, .int 0, .int 0, .ref bs, .ref df, .ref ch, .ref pg, .int rs])), (rt, .inl (cR, 16, .inl (fun _ => 0))), (pg, .inr (3, [.int 400, .int 0, .int 0, .int 0, .int 0, .int 0]))] s.heap.size = A at hD ⊢
  have hA : ∀ q : Nat, s.heap.size ≤ q → A q := fun q h => by rw [← hAe]; exact Or.inr h
  obtain ⟨H, hH⟩ : ∃ H, H = s.heap := ⟨_, rfl⟩
  have hS : va_S A s.heap H [] := by rw [hH]; exact va_S.rf
  rw [← hH] at hP ⊢
  have hP : va_P (dC, dI) kCl [(x, .inr (0, [.ref rt, .ref dr, .int 0, .int 0, .ref bs, .ref df, .ref ch, .ref pg, .int rs])), (rt, .inl (cR, 16, .inl (fun _ => 0))), (pg, .inr (3, [.int 400, .int 0, .int 0, .int 0, .int 0, .int 0]))] H := hP
  have hl := lv_entry ([.ref x, .int dd, .int pp, .int kk]) (n := 6) (Nat.le_of_ble_eq_true rfl)
  rw [lg_entry_eq]
  generalize (lg_sl ([.ref x, .int dd, .int pp, .int kk]) ++ List.replicate (6 - (lg_sl ([.ref x, .int dd, .int pp, .int kk])).length) Slot.unset).toArray = ls at hl ⊢
  have hl : lv_has ls 6 [(0, .ref x), (1, .int dd), (2, .int pp), (3, .int kk)] := hl
  refine lv_aload_n (pc := 0) hx hb dV_drop_0 rfl (lv_at hl 0 rfl) ?_
  refine va_csv (pc := 1) (W.runV (As := []) (rest := []) ⟨hx, hb, hml, hown, hts⟩ (v_needPower l dC dI x rt dr bs df ch pg rs) (cwV 0 hts (gV wd_70 wd_71 wd_72 wd_35 wd_69) rfl rfl rfl (by decide +kernel) ⟨Nat.le_of_ble_eq_true rfl, Nat.le_of_ble_eq_true rfl⟩) ⟨pR_blind, va_recv (q := (RV, TV, 9)) (q0 := 0) (ci := 0) hK hP rfl rfl, pR_pre (hP.sub (ws' := [(x, .inr (0, [.ref rt, .ref dr, .int 0, .int 0, .ref bs, .ref df, .ref ch, .ref pg, .int rs])), (pg, .inr (3, [.int 400, .int 0, .int 0, .int 0, .int 0, .int 0]))]) [0, 2] rfl) (hK.sub (tys' := []) [] rfl)⟩ rfl rfl hl.1 rfl (lv_room (Nat.le_of_ble_eq_true rfl)) dV_drop_1 ⟨Nat.le_of_ble_eq_true rfl, Nat.le_of_ble_eq_true rfl⟩) (fun hr2 => ?_)
  refine lv_aload_n (pc := 4) hx hb dV_drop_4 rfl (lv_at hl 0 rfl) ?_
  refine lv_iload_n (pc := 5) hx hb dV_drop_5 rfl (lv_at hl 1 rfl) ?_
  refine va_csq (pc := 6) (W.runV (As := [.int dd]) (rest := []) ⟨hx, hb, hml, hown, hts⟩ (v_drawingAt l dC dI x rt dr bs df ch pg rs dd) (cwV 1 hts (gV wd_41 wd_42 wd_43 wd_35 wd_40) rfl rfl rfl (by decide +kernel) ⟨Nat.le_of_ble_eq_true rfl, Nat.le_of_ble_eq_true rfl⟩) ⟨pR_blind, va_recv (q := (RV, TV, 9)) (q0 := 0) (ci := 0) hK hP rfl rfl, pR_pre (hP.sub (ws' := [(x, .inr (0, [.ref rt, .ref dr, .int 0, .int 0, .ref bs, .ref df, .ref ch, .ref pg, .int rs]))]) [0] rfl) (hK.sub (tys' := []) [] rfl)⟩ rfl rfl hl.1 rfl (lv_room (Nat.le_of_ble_eq_true rfl)) dV_drop_6 ⟨Nat.le_of_ble_eq_true rfl, Nat.le_of_ble_eq_true rfl⟩) (fun r3 hr4 => ?_)
  obtain rfl : r3 = none := hr4
  refine W.eq (g2 := F0 m 9 ls [.null]) rfl ?_
  refine lv_astoreN (pc := 9) hx hb dV_drop_9 hl (by decide) rfl (fun ls hl => ?_)
  have hl : lv_has ls 6 [(4, .null), (0, .ref x), (1, .int dd), (2, .int pp), (3, .int kk)] := hl
  refine lv_aload_n (pc := 11) hx hb dV_drop_11 rfl (lv_at hl 1 rfl) ?_
  refine lv_aloadN (pc := 12) hx hb dV_drop_12 (lv_at hl 0 rfl) ?_
  refine lv_iload_n (pc := 14) hx hb dV_drop_14 rfl (lv_at hl 3 rfl) ?_
  refine vp_callSi (pc := 15) (W.runV (As := [.null, .int pp]) (rest := []) ⟨hx, hb, hml, hown, hts⟩ (v_copyRefusal l dC dI x rt dr bs df ch pg rs cR pp) (cwV 2 hts (gV wd_82 wd_83 wd_84 wd_35 wd_81) rfl rfl rfl (by decide +kernel) ⟨Nat.le_of_ble_eq_true rfl, Nat.le_of_ble_eq_true rfl⟩) ⟨pR_blind, va_recv (q := (RV, TV, 9)) (q0 := 0) (ci := 0) hK hP rfl rfl, pR_pre (hP.sub (ws' := [(x, .inr (0, [.ref rt, .ref dr, .int 0, .int 0, .ref bs, .ref df, .ref ch, .ref pg, .int rs])), (rt, .inl (cR, 16, .inl (fun _ => 0)))]) [0, 1] rfl) (hK.sub (tys' := [(cR, .int)]) [0] rfl)⟩ rfl rfl hl.1 rfl (lv_room (Nat.le_of_ble_eq_true rfl)) dV_drop_15 ⟨Nat.le_of_ble_eq_true rfl, Nat.le_of_ble_eq_true rfl⟩) (fun r5 hr6 => ?_)
  obtain rfl : r5 = 1 := hr6
  refine lv_istore (pc := 18) hx hb dV_drop_18 hl (by decide) rfl (fun ls hl => ?_)
  have hl : lv_has ls 6 [(5, .int 1), (4, .null), (0, .ref x), (1, .int dd), (2, .int pp), (3, .int kk)] := hl
  refine lv_iload (pc := 20) hx hb dV_drop_20 (lv_at hl 0 rfl) ?_
  refine lv_if_ne (pc := 22) (tgt := 41) hx hb dV_drop_22 rfl (fun h7 => ?_) (fun h7 => absurd h7 (by decide))
  refine lv_aload_n (pc := 41) hx hb dV_drop_41 rfl (lv_at hl 2 rfl) ?_
  refine lv_iload (pc := 42) hx hb dV_drop_42 (lv_at hl 0 rfl) ?_
  have hPc := hP.sub (ws' := [(x, .inr (0, [.ref rt, .ref dr, .int 0, .int 0, .ref bs, .ref df, .ref ch, .ref pg, .int rs]))]) [0] rfl
  have hDc := hD.sub (ws' := [(x, .inr (0, [.ref rt, .ref dr, .int 0, .int 0, .ref bs, .ref df, .ref ch, .ref pg, .int rs]))]) [0] (by decide) rfl
  have hKc := hK.sub (tys' := []) [] rfl
  have hFc := va_free (wc := [(x, .inr (0, [.ref rt, .ref dr, .int 0, .int 0, .ref bs, .ref df, .ref ch, .ref pg, .int rs]))]) hD hS hA [0] rfl
  refine va_calli (pc := 44) (va_runV (As := [.int 1]) (rest := []) ⟨hx, hb, hml, hown, hts⟩ (v_allowed l dC dI H.size x rt dr bs df ch pg rs 1 (by decide)) (cwV 1 hts (gV wd_62 wd_63 wd_64 wd_35 wd_61) rfl rfl rfl (by decide +kernel) ⟨Nat.le_of_ble_eq_true rfl, Nat.le_of_ble_eq_true rfl⟩) ⟨pW_blind, va_recv (q := (RV, TV, 9)) (q0 := 0) (ci := 0) hK hP rfl rfl, pW_pre hPc hKc hDc⟩ rfl rfl hl.1 rfl (lv_room (Nat.le_of_ble_eq_true rfl)) dV_drop_44 ⟨Nat.le_of_ble_eq_true rfl, Nat.le_of_ble_eq_true rfl⟩) hS (fun q _ h => hFc q h) hFc (fun r8 u t H1 locs ht hvm hr9 hB hz1 hk1 hS => ?_)
  obtain ⟨hP1, hK1, hD1⟩ := hB
  rw [ht] at hP1
  have hK1 := va_K.moved hvm.symm hK1
  obtain ⟨hP, hD⟩ := va_join (wr := [(rt, .inl (cR, 16, .inl (fun _ => 0))), (pg, .inr (3, [.int 400, .int 0, .int 0, .int 0, .int 0, .int 0]))]) (w1 := [(x, .inr (0, [.ref rt, .ref dr, .int 0, .int 0, .ref bs, .ref df, .ref ch, .ref pg, .int 1]))]) hP hD [0] [1, 2] rfl rfl (by decide) (by decide) hk1 hFc hP1 hD1
  generalize H1 = H at hP hS ⊢
  have hP : va_P (dC, dI) kCl [(rt, .inl (cR, 16, .inl (fun _ => 0))), (pg, .inr (3, [.int 400, .int 0, .int 0, .int 0, .int 0, .int 0])), (x, .inr (0, [.ref rt, .ref dr, .int 0, .int 0, .ref bs, .ref df, .ref ch, .ref pg, .int 1]))] H := hP
  have hD : va_D A [(rt, .inl (cR, 16, .inl (fun _ => 0))), (pg, .inr (3, [.int 400, .int 0, .int 0, .int 0, .int 0, .int 0])), (x, .inr (0, [.ref rt, .ref dr, .int 0, .int 0, .ref bs, .ref df, .ref ch, .ref pg, .int 1]))] := hD
  refine W.widen (k := 0) (n := 0) (Nat.le_of_ble_eq_true rfl) (Nat.le_of_ble_eq_true rfl) ?_
  obtain rfl : r8 = 0 := hr9
  refine lv_if_ne (pc := 47) (tgt := 52) hx hb dV_drop_47 rfl (fun h11 => absurd h11 (by decide)) (fun h11 => ?_)
  refine lv_iconst (pc := 50) (v := 0) hx hb dV_drop_50 (by decide) ?_
  have hP9 := hP.sub (ws' := []) [] rfl
  have hD9 := hD.sub (ws' := []) [] (by decide) rfl
  have hK9 := hK.sub (tys' := []) [] rfl
  exact W.zret (pc := 51) hx hb hr rfl (fun t ht hW => ⟨⟨_, (), rfl, rfl, by rw [ht]; exact hP9, va_K.moved hW.alike hK9, hD9⟩, hS.F ht⟩) hS.2.2 dV_drop_51
set_option maxHeartbeats 4000000 in
set_option maxRecDepth 100000 in
theorem v_checkIn (l : Launch) (dC : Nat → ClassId) (dI : Nat → Nat → Nat) (sz : Nat) (x : Nat) (rt : Nat) (dr : Nat) (bs : Nat) (df : Nat) (ch : Nat) (pg : Nat) (rs : Int32) (cR : ClassId) (dd : Int32) (pp : Int32) : Met l yV_checkIn (.code yV_checkIn cV_checkIn 6 (some .int) :: aw) ({ frames := 3, cells := 0, slots := 0, locals := 64 }) (pW (dC, dI) sz [(x, .inr (0, [.ref rt, .ref dr, .int 0, .int 0, .ref bs, .ref df, .ref ch, .ref pg, .int rs])), (rt, .inl (cR, 16, .inl (fun _ => 0))), (pg, .inr (3, [.int 400, .int 0, .int 0, .int 0, .int 0, .int 0]))] [(cR, .int)] [.ref x, .int dd, .int pp]) (va_Qi (fun r (_ : Unit) => r = (-1)) (fun _ t => wW (dC, dI) (va_A [(x, .inr (0, [.ref rt, .ref dr, .int 0, .int 0, .ref bs, .ref df, .ref ch, .ref pg, .int rs])), (rt, .inl (cR, 16, .inl (fun _ => 0))), (pg, .inr (3, [.int 400, .int 0, .int 0, .int 0, .int 0, .int 0]))] sz) [] [] t) (va_A [(x, .inr (0, [.ref rt, .ref dr, .int 0, .int 0, .ref bs, .ref df, .ref ch, .ref pg, .int rs])), (rt, .inl (cR, 16, .inl (fun _ => 0))), (pg, .inr (3, [.int 400, .int 0, .int 0, .int 0, .int 0, .int 0]))] sz)) 0 0 (va_A [(x, .inr (0, [.ref rt, .ref dr, .int 0, .int 0, .ref bs, .ref df, .ref ch, .ref pg, .int rs])), (rt, .inl (cR, 16, .inl (fun _ => 0))), (pg, .inr (3, [.int 400, .int 0, .int 0, .int 0, .int 0, .int 0]))] sz) := by
  refine Met.ofW (cc := cV_checkIn) (maxL := 6) (ret := (some .int)) (by decide) rfl ?_
  intro p e s m args below meth c s₁ B hml hv
  obtain ⟨rfl, hv⟩ := hv
  have hx := B.exec
  have hb := B.bytes
  have hr := B.returns
  have hts : ∀ w ∈ aw, w.before _ s = true := fun w h => atoms_spec (ws := (.code yV_checkIn cV_checkIn 6 (some .int) :: aw)) B.pre w (List.mem_cons_of_mem _ h)
  have hown : s.vm.findClass RV = some m.cls := findClass_of_methodNamed B.named
  have hlocks := B.notSynchronized
  obtain ⟨hsz, hP, hK, hD0⟩ := hv
  subst hsz
  have hD := hD0.self (sz := s.heap.size)
  generalize hAe : va_A [(x, .inr (0, [.ref rt, .ref dr, .int 0, .int 0, .ref bs, .ref df, .ref ch, .ref pg, .int rs])), (rt, .inl (cR, 16, .inl (fun _ => 0))), (pg, .inr (3, [.int 400, .int 0, .int 0, .int 0, .int 0, .int 0]))] s.heap.size = A at hD ⊢
  have hA : ∀ q : Nat, s.heap.size ≤ q → A q := fun q h => by rw [← hAe]; exact Or.inr h
  obtain ⟨H, hH⟩ : ∃ H, H = s.heap := ⟨_, rfl⟩
  have hS : va_S A s.heap H [] := by rw [hH]; exact va_S.rf
  rw [← hH] at hP ⊢
  have hP : va_P (dC, dI) kCl [(x, .inr (0, [.ref rt, .ref dr, .int 0, .int 0, .ref bs, .ref df, .ref ch, .ref pg, .int rs])), (rt, .inl (cR, 16, .inl (fun _ => 0))), (pg, .inr (3, [.int 400, .int 0, .int 0, .int 0, .int 0, .int 0]))] H := hP
  have hl := lv_entry ([.ref x, .int dd, .int pp]) (n := 6) (Nat.le_of_ble_eq_true rfl)
  rw [lg_entry_eq]
  generalize (lg_sl ([.ref x, .int dd, .int pp]) ++ List.replicate (6 - (lg_sl ([.ref x, .int dd, .int pp])).length) Slot.unset).toArray = ls at hl ⊢
  have hl : lv_has ls 6 [(0, .ref x), (1, .int dd), (2, .int pp)] := hl
  refine lv_aload_n (pc := 0) hx hb dV_checkIn_0 rfl (lv_at hl 0 rfl) ?_
  refine va_csv (pc := 1) (W.runV (As := []) (rest := []) ⟨hx, hb, hml, hown, hts⟩ (v_needPower l dC dI x rt dr bs df ch pg rs) (cwV 0 hts (gV wd_70 wd_71 wd_72 wd_35 wd_69) rfl rfl rfl (by decide +kernel) ⟨Nat.le_of_ble_eq_true rfl, Nat.le_of_ble_eq_true rfl⟩) ⟨pR_blind, va_recv (q := (RV, TV, 9)) (q0 := 0) (ci := 0) hK hP rfl rfl, pR_pre (hP.sub (ws' := [(x, .inr (0, [.ref rt, .ref dr, .int 0, .int 0, .ref bs, .ref df, .ref ch, .ref pg, .int rs])), (pg, .inr (3, [.int 400, .int 0, .int 0, .int 0, .int 0, .int 0]))]) [0, 2] rfl) (hK.sub (tys' := []) [] rfl)⟩ rfl rfl hl.1 rfl (lv_room (Nat.le_of_ble_eq_true rfl)) dV_checkIn_1 ⟨Nat.le_of_ble_eq_true rfl, Nat.le_of_ble_eq_true rfl⟩) (fun hr2 => ?_)
  refine lv_aload_n (pc := 4) hx hb dV_checkIn_4 rfl (lv_at hl 0 rfl) ?_
  refine lv_iload_n (pc := 5) hx hb dV_checkIn_5 rfl (lv_at hl 1 rfl) ?_
  refine va_csq (pc := 6) (W.runV (As := [.int dd]) (rest := []) ⟨hx, hb, hml, hown, hts⟩ (v_drawingAt l dC dI x rt dr bs df ch pg rs dd) (cwV 1 hts (gV wd_41 wd_42 wd_43 wd_35 wd_40) rfl rfl rfl (by decide +kernel) ⟨Nat.le_of_ble_eq_true rfl, Nat.le_of_ble_eq_true rfl⟩) ⟨pR_blind, va_recv (q := (RV, TV, 9)) (q0 := 0) (ci := 0) hK hP rfl rfl, pR_pre (hP.sub (ws' := [(x, .inr (0, [.ref rt, .ref dr, .int 0, .int 0, .ref bs, .ref df, .ref ch, .ref pg, .int rs]))]) [0] rfl) (hK.sub (tys' := []) [] rfl)⟩ rfl rfl hl.1 rfl (lv_room (Nat.le_of_ble_eq_true rfl)) dV_checkIn_6 ⟨Nat.le_of_ble_eq_true rfl, Nat.le_of_ble_eq_true rfl⟩) (fun r3 hr4 => ?_)
  obtain rfl : r3 = none := hr4
  refine W.eq (g2 := F0 m 9 ls [.null]) rfl ?_
  refine lv_astore_nN (pc := 9) hx hb dV_checkIn_9 rfl hl (by decide) rfl (fun ls hl => ?_)
  have hl : lv_has ls 6 [(3, .null), (0, .ref x), (1, .int dd), (2, .int pp)] := hl
  refine lv_aload_n (pc := 10) hx hb dV_checkIn_10 rfl (lv_at hl 1 rfl) ?_
  refine lv_aload_nN (pc := 11) hx hb dV_checkIn_11 rfl (lv_at hl 0 rfl) ?_
  refine lv_iload_n (pc := 12) hx hb dV_checkIn_12 rfl (lv_at hl 3 rfl) ?_
  refine vp_callSi (pc := 13) (W.runV (As := [.null, .int pp]) (rest := []) ⟨hx, hb, hml, hown, hts⟩ (v_copyRefusal l dC dI x rt dr bs df ch pg rs cR pp) (cwV 2 hts (gV wd_82 wd_83 wd_84 wd_35 wd_81) rfl rfl rfl (by decide +kernel) ⟨Nat.le_of_ble_eq_true rfl, Nat.le_of_ble_eq_true rfl⟩) ⟨pR_blind, va_recv (q := (RV, TV, 9)) (q0 := 0) (ci := 0) hK hP rfl rfl, pR_pre (hP.sub (ws' := [(x, .inr (0, [.ref rt, .ref dr, .int 0, .int 0, .ref bs, .ref df, .ref ch, .ref pg, .int rs])), (rt, .inl (cR, 16, .inl (fun _ => 0)))]) [0, 1] rfl) (hK.sub (tys' := [(cR, .int)]) [0] rfl)⟩ rfl rfl hl.1 rfl (lv_room (Nat.le_of_ble_eq_true rfl)) dV_checkIn_13 ⟨Nat.le_of_ble_eq_true rfl, Nat.le_of_ble_eq_true rfl⟩) (fun r5 hr6 => ?_)
  obtain rfl : r5 = 1 := hr6
  refine lv_istore (pc := 16) hx hb dV_checkIn_16 hl (by decide) rfl (fun ls hl => ?_)
  have hl : lv_has ls 6 [(4, .int 1), (3, .null), (0, .ref x), (1, .int dd), (2, .int pp)] := hl
  refine lv_iconst (pc := 18) (v := 0) hx hb dV_checkIn_18 (by decide) ?_
  refine lv_istore (pc := 19) hx hb dV_checkIn_19 hl (by decide) rfl (fun ls hl => ?_)
  have hl : lv_has ls 6 [(5, .int 0), (4, .int 1), (3, .null), (0, .ref x), (1, .int dd), (2, .int pp)] := hl
  refine lv_iload (pc := 21) hx hb dV_checkIn_21 (lv_at hl 1 rfl) ?_
  refine lv_if_ne (pc := 23) (tgt := 49) hx hb dV_checkIn_23 rfl (fun h7 => ?_) (fun h7 => absurd h7 (by decide))
  refine lv_aload_n (pc := 49) hx hb dV_checkIn_49 rfl (lv_at hl 3 rfl) ?_
  refine lv_iload (pc := 50) hx hb dV_checkIn_50 (lv_at hl 1 rfl) ?_
  refine lv_iload (pc := 52) hx hb dV_checkIn_52 (lv_at hl 0 rfl) ?_
  have hPc := hP.sub (ws' := [(x, .inr (0, [.ref rt, .ref dr, .int 0, .int 0, .ref bs, .ref df, .ref ch, .ref pg, .int rs]))]) [0] rfl
  have hDc := hD.sub (ws' := [(x, .inr (0, [.ref rt, .ref dr, .int 0, .int 0, .ref bs, .ref df, .ref ch, .ref pg, .int rs]))]) [0] (by decide) rfl
  have hKc := hK.sub (tys' := []) [] rfl
  have hFc := va_free (wc := [(x, .inr (0, [.ref rt, .ref dr, .int 0, .int 0, .ref bs, .ref df, .ref ch, .ref pg, .int rs]))]) hD hS hA [0] rfl
  refine va_calli (pc := 54) (va_runV (As := [.int 1, .int 0]) (rest := []) ⟨hx, hb, hml, hown, hts⟩ (v_mayWrite l dC dI H.size x rt dr bs df ch pg rs 1 0 (by decide)) (cwV 2 hts (gV wd_66 wd_67 wd_68 wd_35 wd_65) rfl rfl rfl (by decide +kernel) ⟨Nat.le_of_ble_eq_true rfl, Nat.le_of_ble_eq_true rfl⟩) ⟨pW_blind, va_recv (q := (RV, TV, 9)) (q0 := 0) (ci := 0) hK hP rfl rfl, pW_pre hPc hKc hDc⟩ rfl rfl hl.1 rfl (lv_room (Nat.le_of_ble_eq_true rfl)) dV_checkIn_54 ⟨Nat.le_of_ble_eq_true rfl, Nat.le_of_ble_eq_true rfl⟩) hS (fun q _ h => hFc q h) hFc (fun r8 u t H1 locs ht hvm hr9 hB hz1 hk1 hS => ?_)
  obtain ⟨hP1, hK1, hD1⟩ := hB
  rw [ht] at hP1
  have hK1 := va_K.moved hvm.symm hK1
  obtain ⟨hP, hD⟩ := va_join (wr := [(rt, .inl (cR, 16, .inl (fun _ => 0))), (pg, .inr (3, [.int 400, .int 0, .int 0, .int 0, .int 0, .int 0]))]) (w1 := [(x, .inr (0, [.ref rt, .ref dr, .int 0, .int 0, .ref bs, .ref df, .ref ch, .ref pg, .int 1]))]) hP hD [0] [1, 2] rfl rfl (by decide) (by decide) hk1 hFc hP1 hD1
  generalize H1 = H at hP hS ⊢
  have hP : va_P (dC, dI) kCl [(rt, .inl (cR, 16, .inl (fun _ => 0))), (pg, .inr (3, [.int 400, .int 0, .int 0, .int 0, .int 0, .int 0])), (x, .inr (0, [.ref rt, .ref dr, .int 0, .int 0, .ref bs, .ref df, .ref ch, .ref pg, .int 1]))] H := hP
  have hD : va_D A [(rt, .inl (cR, 16, .inl (fun _ => 0))), (pg, .inr (3, [.int 400, .int 0, .int 0, .int 0, .int 0, .int 0])), (x, .inr (0, [.ref rt, .ref dr, .int 0, .int 0, .ref bs, .ref df, .ref ch, .ref pg, .int 1]))] := hD
  refine W.widen (k := 0) (n := 0) (Nat.le_of_ble_eq_true rfl) (Nat.le_of_ble_eq_true rfl) ?_
  obtain rfl : r8 = 0 := hr9
  refine lv_if_ne (pc := 57) (tgt := 62) hx hb dV_checkIn_57 rfl (fun h11 => absurd h11 (by decide)) (fun h11 => ?_)
  refine lv_iconst (pc := 60) (v := (-1)) hx hb dV_checkIn_60 (by decide) ?_
  have hP9 := hP.sub (ws' := []) [] rfl
  have hD9 := hD.sub (ws' := []) [] (by decide) rfl
  have hK9 := hK.sub (tys' := []) [] rfl
  exact W.iret (pc := 61) hx hb hr (fun t ht hW => ⟨⟨_, (), rfl, rfl, by rw [ht]; exact hP9, va_K.moved hW.alike hK9, hD9⟩, hS.F ht⟩) hS.2.2 dV_checkIn_61
set_option maxHeartbeats 4000000 in
set_option maxRecDepth 100000 in
theorem v_check (l : Launch) (dC : Nat → ClassId) (dI : Nat → Nat → Nat) (sz : Nat) (x : Nat) (rt : Nat) (dr : Nat) (bs : Nat) (df : Nat) (ch : Nat) (pg : Nat) (rs : Int32) (cR : ClassId) (dd : Int32) (vv : Int32) (pp : Int32) : Met l yV_check (.code yV_check cV_check 4 (some .boolean) :: aw) ({ frames := 3, cells := 0, slots := 0, locals := 69 }) (pW (dC, dI) sz [(x, .inr (0, [.ref rt, .ref dr, .int 0, .int 0, .ref bs, .ref df, .ref ch, .ref pg, .int rs])), (rt, .inl (cR, 16, .inl (fun _ => 0))), (pg, .inr (3, [.int 400, .int 0, .int 0, .int 0, .int 0, .int 0]))] [(cR, .int)] [.ref x, .int dd, .int vv, .int pp]) (va_Qi (fun r (_ : Unit) => r = 0) (fun _ t => wW (dC, dI) (va_A [(x, .inr (0, [.ref rt, .ref dr, .int 0, .int 0, .ref bs, .ref df, .ref ch, .ref pg, .int rs])), (rt, .inl (cR, 16, .inl (fun _ => 0))), (pg, .inr (3, [.int 400, .int 0, .int 0, .int 0, .int 0, .int 0]))] sz) [] [] t) (va_A [(x, .inr (0, [.ref rt, .ref dr, .int 0, .int 0, .ref bs, .ref df, .ref ch, .ref pg, .int rs])), (rt, .inl (cR, 16, .inl (fun _ => 0))), (pg, .inr (3, [.int 400, .int 0, .int 0, .int 0, .int 0, .int 0]))] sz)) 0 0 (va_A [(x, .inr (0, [.ref rt, .ref dr, .int 0, .int 0, .ref bs, .ref df, .ref ch, .ref pg, .int rs])), (rt, .inl (cR, 16, .inl (fun _ => 0))), (pg, .inr (3, [.int 400, .int 0, .int 0, .int 0, .int 0, .int 0]))] sz) := by
  refine Met.ofW (cc := cV_check) (maxL := 4) (ret := (some .boolean)) (by decide) rfl ?_
  intro p e s m args below meth c s₁ B hml hv
  obtain ⟨rfl, hv⟩ := hv
  have hx := B.exec
  have hb := B.bytes
  have hr := B.returns
  have hts : ∀ w ∈ aw, w.before _ s = true := fun w h => atoms_spec (ws := (.code yV_check cV_check 4 (some .boolean) :: aw)) B.pre w (List.mem_cons_of_mem _ h)
  have hown : s.vm.findClass RV = some m.cls := findClass_of_methodNamed B.named
  have hlocks := B.notSynchronized
  obtain ⟨hsz, hP, hK, hD0⟩ := hv
  subst hsz
  have hD := hD0.self (sz := s.heap.size)
  generalize hAe : va_A [(x, .inr (0, [.ref rt, .ref dr, .int 0, .int 0, .ref bs, .ref df, .ref ch, .ref pg, .int rs])), (rt, .inl (cR, 16, .inl (fun _ => 0))), (pg, .inr (3, [.int 400, .int 0, .int 0, .int 0, .int 0, .int 0]))] s.heap.size = A at hD ⊢
  have hA : ∀ q : Nat, s.heap.size ≤ q → A q := fun q h => by rw [← hAe]; exact Or.inr h
  obtain ⟨H, hH⟩ : ∃ H, H = s.heap := ⟨_, rfl⟩
  have hS : va_S A s.heap H [] := by rw [hH]; exact va_S.rf
  rw [← hH] at hP ⊢
  have hP : va_P (dC, dI) kCl [(x, .inr (0, [.ref rt, .ref dr, .int 0, .int 0, .ref bs, .ref df, .ref ch, .ref pg, .int rs])), (rt, .inl (cR, 16, .inl (fun _ => 0))), (pg, .inr (3, [.int 400, .int 0, .int 0, .int 0, .int 0, .int 0]))] H := hP
  have hl := lv_entry ([.ref x, .int dd, .int vv, .int pp]) (n := 4) (Nat.le_of_ble_eq_true rfl)
  rw [lg_entry_eq]
  generalize (lg_sl ([.ref x, .int dd, .int vv, .int pp]) ++ List.replicate (4 - (lg_sl ([.ref x, .int dd, .int vv, .int pp])).length) Slot.unset).toArray = ls at hl ⊢
  have hl : lv_has ls 4 [(0, .ref x), (1, .int dd), (2, .int vv), (3, .int pp)] := hl
  refine lv_aload_n (pc := 0) hx hb dV_check_0 rfl (lv_at hl 0 rfl) ?_
  refine va_csv (pc := 1) (W.runV (As := []) (rest := []) ⟨hx, hb, hml, hown, hts⟩ (v_needPower l dC dI x rt dr bs df ch pg rs) (cwV 0 hts (gV wd_70 wd_71 wd_72 wd_35 wd_69) rfl rfl rfl (by decide +kernel) ⟨Nat.le_of_ble_eq_true rfl, Nat.le_of_ble_eq_true rfl⟩) ⟨pR_blind, va_recv (q := (RV, TV, 9)) (q0 := 0) (ci := 0) hK hP rfl rfl, pR_pre (hP.sub (ws' := [(x, .inr (0, [.ref rt, .ref dr, .int 0, .int 0, .ref bs, .ref df, .ref ch, .ref pg, .int rs])), (pg, .inr (3, [.int 400, .int 0, .int 0, .int 0, .int 0, .int 0]))]) [0, 2] rfl) (hK.sub (tys' := []) [] rfl)⟩ rfl rfl hl.1 rfl (lv_room (Nat.le_of_ble_eq_true rfl)) dV_check_1 ⟨Nat.le_of_ble_eq_true rfl, Nat.le_of_ble_eq_true rfl⟩) (fun hr2 => ?_)
  refine lv_aload_n (pc := 4) hx hb dV_check_4 rfl (lv_at hl 0 rfl) ?_
  refine lv_iload_n (pc := 5) hx hb dV_check_5 rfl (lv_at hl 1 rfl) ?_
  refine lv_iload_n (pc := 6) hx hb dV_check_6 rfl (lv_at hl 2 rfl) ?_
  refine lv_iconst (pc := 7) (v := 1) hx hb dV_check_7 (by decide) ?_
  refine lv_aload_n (pc := 8) hx hb dV_check_8 rfl (lv_at hl 0 rfl) ?_
  refine lv_iload_n (pc := 9) hx hb dV_check_9 rfl (lv_at hl 1 rfl) ?_
  refine lv_iload_n (pc := 10) hx hb dV_check_10 rfl (lv_at hl 2 rfl) ?_
  refine lv_iload_n (pc := 11) hx hb dV_check_11 rfl (lv_at hl 3 rfl) ?_
  refine vp_callSi (pc := 12) (W.runV (As := [.int dd, .int vv, .int pp]) (rest := [.int 1, .int vv, .int dd, .ref x]) ⟨hx, hb, hml, hown, hts⟩ (v_checkRefusal l dC dI x rt dr bs df ch pg rs cR dd vv pp) (cwV 3 hts (gV wd_86 wd_87 wd_88 wd_35 wd_85) rfl rfl rfl (by decide +kernel) ⟨Nat.le_of_ble_eq_true rfl, Nat.le_of_ble_eq_true rfl⟩) ⟨pR_blind, va_recv (q := (RV, TV, 9)) (q0 := 0) (ci := 0) hK hP rfl rfl, pR_pre (hP.sub (ws' := [(x, .inr (0, [.ref rt, .ref dr, .int 0, .int 0, .ref bs, .ref df, .ref ch, .ref pg, .int rs])), (rt, .inl (cR, 16, .inl (fun _ => 0)))]) [0, 1] rfl) (hK.sub (tys' := [(cR, .int)]) [0] rfl)⟩ rfl rfl hl.1 rfl (lv_room (Nat.le_of_ble_eq_true rfl)) dV_check_12 ⟨Nat.le_of_ble_eq_true rfl, Nat.le_of_ble_eq_true rfl⟩) (fun r3 hr4 => ?_)
  obtain rfl : r3 = 1 := hr4
  have hPc := hP.sub (ws' := [(x, .inr (0, [.ref rt, .ref dr, .int 0, .int 0, .ref bs, .ref df, .ref ch, .ref pg, .int rs]))]) [0] rfl
  have hDc := hD.sub (ws' := [(x, .inr (0, [.ref rt, .ref dr, .int 0, .int 0, .ref bs, .ref df, .ref ch, .ref pg, .int rs]))]) [0] (by decide) rfl
  have hKc := hK.sub (tys' := []) [] rfl
  have hFc := va_free (wc := [(x, .inr (0, [.ref rt, .ref dr, .int 0, .int 0, .ref bs, .ref df, .ref ch, .ref pg, .int rs]))]) hD hS hA [0] rfl
  refine va_calli (pc := 15) (va_runV (As := [.int dd, .int vv, .int 1, .int 1]) (rest := []) ⟨hx, hb, hml, hown, hts⟩ (v_becomes l dC dI H.size x rt dr bs df ch pg rs dd vv 1 1 (by decide)) (cwV 4 hts (gV wd_90 wd_91 wd_92 wd_35 wd_89) rfl rfl rfl (by decide +kernel) ⟨Nat.le_of_ble_eq_true rfl, Nat.le_of_ble_eq_true rfl⟩) ⟨pW_blind, va_recv (q := (RV, TV, 9)) (q0 := 0) (ci := 0) hK hP rfl rfl, pW_pre hPc hKc hDc⟩ rfl rfl hl.1 rfl (lv_room (Nat.le_of_ble_eq_true rfl)) dV_check_15 ⟨Nat.le_of_ble_eq_true rfl, Nat.le_of_ble_eq_true rfl⟩) hS (fun q _ h => hFc q h) hFc (fun r5 u t H1 locs ht hvm hr6 hB hz1 hk1 hS => ?_)
  obtain ⟨hP1, hK1, hD1⟩ := hB
  rw [ht] at hP1
  have hK1 := va_K.moved hvm.symm hK1
  obtain ⟨hP, hD⟩ := va_join (wr := [(rt, .inl (cR, 16, .inl (fun _ => 0))), (pg, .inr (3, [.int 400, .int 0, .int 0, .int 0, .int 0, .int 0]))]) (w1 := []) hP hD [0] [1, 2] rfl rfl (by decide) (by decide) hk1 hFc hP1 hD1
  generalize H1 = H at hP hS ⊢
  have hP : va_P (dC, dI) kCl [(rt, .inl (cR, 16, .inl (fun _ => 0))), (pg, .inr (3, [.int 400, .int 0, .int 0, .int 0, .int 0, .int 0]))] H := hP
  have hD : va_D A [(rt, .inl (cR, 16, .inl (fun _ => 0))), (pg, .inr (3, [.int 400, .int 0, .int 0, .int 0, .int 0, .int 0]))] := hD
  refine W.widen (k := 0) (n := 0) (Nat.le_of_ble_eq_true rfl) (Nat.le_of_ble_eq_true rfl) ?_
  obtain rfl : r5 = 0 := hr6
  have hP9 := hP.sub (ws' := []) [] rfl
  have hD9 := hD.sub (ws' := []) [] (by decide) rfl
  have hK9 := hK.sub (tys' := []) [] rfl
  exact W.zret (pc := 18) hx hb hr rfl (fun t ht hW => ⟨⟨_, (), rfl, rfl, by rw [ht]; exact hP9, va_K.moved hW.alike hK9, hD9⟩, hS.F ht⟩) hS.2.2 dV_check_18
set_option maxHeartbeats 4000000 in
set_option maxRecDepth 100000 in
theorem v_release (l : Launch) (dC : Nat → ClassId) (dI : Nat → Nat → Nat) (sz : Nat) (x : Nat) (rt : Nat) (dr : Nat) (bs : Nat) (df : Nat) (ch : Nat) (pg : Nat) (rs : Int32) (cR : ClassId) (dd : Int32) (vv : Int32) (pp : Int32) : Met l yV_release (.code yV_release cV_release 4 (some .boolean) :: aw) ({ frames := 3, cells := 0, slots := 0, locals := 69 }) (pW (dC, dI) sz [(x, .inr (0, [.ref rt, .ref dr, .int 0, .int 0, .ref bs, .ref df, .ref ch, .ref pg, .int rs])), (rt, .inl (cR, 16, .inl (fun _ => 0))), (pg, .inr (3, [.int 400, .int 0, .int 0, .int 0, .int 0, .int 0]))] [(cR, .int)] [.ref x, .int dd, .int vv, .int pp]) (va_Qi (fun r (_ : Unit) => r = 0) (fun _ t => wW (dC, dI) (va_A [(x, .inr (0, [.ref rt, .ref dr, .int 0, .int 0, .ref bs, .ref df, .ref ch, .ref pg, .int rs])), (rt, .inl (cR, 16, .inl (fun _ => 0))), (pg, .inr (3, [.int 400, .int 0, .int 0, .int 0, .int 0, .int 0]))] sz) [] [] t) (va_A [(x, .inr (0, [.ref rt, .ref dr, .int 0, .int 0, .ref bs, .ref df, .ref ch, .ref pg, .int rs])), (rt, .inl (cR, 16, .inl (fun _ => 0))), (pg, .inr (3, [.int 400, .int 0, .int 0, .int 0, .int 0, .int 0]))] sz)) 0 0 (va_A [(x, .inr (0, [.ref rt, .ref dr, .int 0, .int 0, .ref bs, .ref df, .ref ch, .ref pg, .int rs])), (rt, .inl (cR, 16, .inl (fun _ => 0))), (pg, .inr (3, [.int 400, .int 0, .int 0, .int 0, .int 0, .int 0]))] sz) := by
  refine Met.ofW (cc := cV_release) (maxL := 4) (ret := (some .boolean)) (by decide) rfl ?_
  intro p e s m args below meth c s₁ B hml hv
  obtain ⟨rfl, hv⟩ := hv
  have hx := B.exec
  have hb := B.bytes
  have hr := B.returns
  have hts : ∀ w ∈ aw, w.before _ s = true := fun w h => atoms_spec (ws := (.code yV_release cV_release 4 (some .boolean) :: aw)) B.pre w (List.mem_cons_of_mem _ h)
  have hown : s.vm.findClass RV = some m.cls := findClass_of_methodNamed B.named
  have hlocks := B.notSynchronized
  obtain ⟨hsz, hP, hK, hD0⟩ := hv
  subst hsz
  have hD := hD0.self (sz := s.heap.size)
  generalize hAe : va_A [(x, .inr (0, [.ref rt, .ref dr, .int 0, .int 0, .ref bs, .ref df, .ref ch, .ref pg, .int rs])), (rt, .inl (cR, 16, .inl (fun _ => 0))), (pg, .inr (3, [.int 400, .int 0, .int 0, .int 0, .int 0, .int 0]))] s.heap.size = A at hD ⊢
  have hA : ∀ q : Nat, s.heap.size ≤ q → A q := fun q h => by rw [← hAe]; exact Or.inr h
  obtain ⟨H, hH⟩ : ∃ H, H = s.heap := ⟨_, rfl⟩
  have hS : va_S A s.heap H [] := by rw [hH]; exact va_S.rf
  rw [← hH] at hP ⊢
  have hP : va_P (dC, dI) kCl [(x, .inr (0, [.ref rt, .ref dr, .int 0, .int 0, .ref bs, .ref df, .ref ch, .ref pg, .int rs])), (rt, .inl (cR, 16, .inl (fun _ => 0))), (pg, .inr (3, [.int 400, .int 0, .int 0, .int 0, .int 0, .int 0]))] H := hP
  have hl := lv_entry ([.ref x, .int dd, .int vv, .int pp]) (n := 4) (Nat.le_of_ble_eq_true rfl)
  rw [lg_entry_eq]
  generalize (lg_sl ([.ref x, .int dd, .int vv, .int pp]) ++ List.replicate (4 - (lg_sl ([.ref x, .int dd, .int vv, .int pp])).length) Slot.unset).toArray = ls at hl ⊢
  have hl : lv_has ls 4 [(0, .ref x), (1, .int dd), (2, .int vv), (3, .int pp)] := hl
  refine lv_aload_n (pc := 0) hx hb dV_release_0 rfl (lv_at hl 0 rfl) ?_
  refine va_csv (pc := 1) (W.runV (As := []) (rest := []) ⟨hx, hb, hml, hown, hts⟩ (v_needPower l dC dI x rt dr bs df ch pg rs) (cwV 0 hts (gV wd_70 wd_71 wd_72 wd_35 wd_69) rfl rfl rfl (by decide +kernel) ⟨Nat.le_of_ble_eq_true rfl, Nat.le_of_ble_eq_true rfl⟩) ⟨pR_blind, va_recv (q := (RV, TV, 9)) (q0 := 0) (ci := 0) hK hP rfl rfl, pR_pre (hP.sub (ws' := [(x, .inr (0, [.ref rt, .ref dr, .int 0, .int 0, .ref bs, .ref df, .ref ch, .ref pg, .int rs])), (pg, .inr (3, [.int 400, .int 0, .int 0, .int 0, .int 0, .int 0]))]) [0, 2] rfl) (hK.sub (tys' := []) [] rfl)⟩ rfl rfl hl.1 rfl (lv_room (Nat.le_of_ble_eq_true rfl)) dV_release_1 ⟨Nat.le_of_ble_eq_true rfl, Nat.le_of_ble_eq_true rfl⟩) (fun hr2 => ?_)
  refine lv_aload_n (pc := 4) hx hb dV_release_4 rfl (lv_at hl 0 rfl) ?_
  refine lv_iload_n (pc := 5) hx hb dV_release_5 rfl (lv_at hl 1 rfl) ?_
  refine lv_iload_n (pc := 6) hx hb dV_release_6 rfl (lv_at hl 2 rfl) ?_
  refine lv_iconst (pc := 7) (v := 2) hx hb dV_release_7 (by decide) ?_
  refine lv_aload_n (pc := 8) hx hb dV_release_8 rfl (lv_at hl 0 rfl) ?_
  refine lv_iload_n (pc := 9) hx hb dV_release_9 rfl (lv_at hl 1 rfl) ?_
  refine lv_iload_n (pc := 10) hx hb dV_release_10 rfl (lv_at hl 2 rfl) ?_
  refine lv_iload_n (pc := 11) hx hb dV_release_11 rfl (lv_at hl 3 rfl) ?_
  refine vp_callSi (pc := 12) (W.runV (As := [.int dd, .int vv, .int pp]) (rest := [.int 2, .int vv, .int dd, .ref x]) ⟨hx, hb, hml, hown, hts⟩ (v_releaseRefusal l dC dI x rt dr bs df ch pg rs cR dd vv pp) (cwV 3 hts (gV wd_94 wd_95 wd_96 wd_35 wd_93) rfl rfl rfl (by decide +kernel) ⟨Nat.le_of_ble_eq_true rfl, Nat.le_of_ble_eq_true rfl⟩) ⟨pR_blind, va_recv (q := (RV, TV, 9)) (q0 := 0) (ci := 0) hK hP rfl rfl, pR_pre (hP.sub (ws' := [(x, .inr (0, [.ref rt, .ref dr, .int 0, .int 0, .ref bs, .ref df, .ref ch, .ref pg, .int rs])), (rt, .inl (cR, 16, .inl (fun _ => 0)))]) [0, 1] rfl) (hK.sub (tys' := [(cR, .int)]) [0] rfl)⟩ rfl rfl hl.1 rfl (lv_room (Nat.le_of_ble_eq_true rfl)) dV_release_12 ⟨Nat.le_of_ble_eq_true rfl, Nat.le_of_ble_eq_true rfl⟩) (fun r3 hr4 => ?_)
  obtain rfl : r3 = 1 := hr4
  have hPc := hP.sub (ws' := [(x, .inr (0, [.ref rt, .ref dr, .int 0, .int 0, .ref bs, .ref df, .ref ch, .ref pg, .int rs]))]) [0] rfl
  have hDc := hD.sub (ws' := [(x, .inr (0, [.ref rt, .ref dr, .int 0, .int 0, .ref bs, .ref df, .ref ch, .ref pg, .int rs]))]) [0] (by decide) rfl
  have hKc := hK.sub (tys' := []) [] rfl
  have hFc := va_free (wc := [(x, .inr (0, [.ref rt, .ref dr, .int 0, .int 0, .ref bs, .ref df, .ref ch, .ref pg, .int rs]))]) hD hS hA [0] rfl
  refine va_calli (pc := 15) (va_runV (As := [.int dd, .int vv, .int 2, .int 1]) (rest := []) ⟨hx, hb, hml, hown, hts⟩ (v_becomes l dC dI H.size x rt dr bs df ch pg rs dd vv 2 1 (by decide)) (cwV 4 hts (gV wd_90 wd_91 wd_92 wd_35 wd_89) rfl rfl rfl (by decide +kernel) ⟨Nat.le_of_ble_eq_true rfl, Nat.le_of_ble_eq_true rfl⟩) ⟨pW_blind, va_recv (q := (RV, TV, 9)) (q0 := 0) (ci := 0) hK hP rfl rfl, pW_pre hPc hKc hDc⟩ rfl rfl hl.1 rfl (lv_room (Nat.le_of_ble_eq_true rfl)) dV_release_15 ⟨Nat.le_of_ble_eq_true rfl, Nat.le_of_ble_eq_true rfl⟩) hS (fun q _ h => hFc q h) hFc (fun r5 u t H1 locs ht hvm hr6 hB hz1 hk1 hS => ?_)
  obtain ⟨hP1, hK1, hD1⟩ := hB
  rw [ht] at hP1
  have hK1 := va_K.moved hvm.symm hK1
  obtain ⟨hP, hD⟩ := va_join (wr := [(rt, .inl (cR, 16, .inl (fun _ => 0))), (pg, .inr (3, [.int 400, .int 0, .int 0, .int 0, .int 0, .int 0]))]) (w1 := []) hP hD [0] [1, 2] rfl rfl (by decide) (by decide) hk1 hFc hP1 hD1
  generalize H1 = H at hP hS ⊢
  have hP : va_P (dC, dI) kCl [(rt, .inl (cR, 16, .inl (fun _ => 0))), (pg, .inr (3, [.int 400, .int 0, .int 0, .int 0, .int 0, .int 0]))] H := hP
  have hD : va_D A [(rt, .inl (cR, 16, .inl (fun _ => 0))), (pg, .inr (3, [.int 400, .int 0, .int 0, .int 0, .int 0, .int 0]))] := hD
  refine W.widen (k := 0) (n := 0) (Nat.le_of_ble_eq_true rfl) (Nat.le_of_ble_eq_true rfl) ?_
  obtain rfl : r5 = 0 := hr6
  have hP9 := hP.sub (ws' := []) [] rfl
  have hD9 := hD.sub (ws' := []) [] (by decide) rfl
  have hK9 := hK.sub (tys' := []) [] rfl
  exact W.zret (pc := 18) hx hb hr rfl (fun t ht hW => ⟨⟨_, (), rfl, rfl, by rw [ht]; exact hP9, va_K.moved hW.alike hK9, hD9⟩, hS.F ht⟩) hS.2.2 dV_release_18
set_option maxHeartbeats 4000000 in
set_option maxRecDepth 100000 in
theorem v_withdraw (l : Launch) (dC : Nat → ClassId) (dI : Nat → Nat → Nat) (sz : Nat) (x : Nat) (rt : Nat) (dr : Nat) (bs : Nat) (df : Nat) (ch : Nat) (pg : Nat) (rs : Int32) (cR : ClassId) (dd : Int32) (vv : Int32) (pp : Int32) : Met l yV_withdraw (.code yV_withdraw cV_withdraw 4 (some .boolean) :: aw) ({ frames := 3, cells := 0, slots := 0, locals := 69 }) (pW (dC, dI) sz [(x, .inr (0, [.ref rt, .ref dr, .int 0, .int 0, .ref bs, .ref df, .ref ch, .ref pg, .int rs])), (rt, .inl (cR, 16, .inl (fun _ => 0))), (pg, .inr (3, [.int 400, .int 0, .int 0, .int 0, .int 0, .int 0]))] [(cR, .int)] [.ref x, .int dd, .int vv, .int pp]) (va_Qi (fun r (_ : Unit) => r = 0) (fun _ t => wW (dC, dI) (va_A [(x, .inr (0, [.ref rt, .ref dr, .int 0, .int 0, .ref bs, .ref df, .ref ch, .ref pg, .int rs])), (rt, .inl (cR, 16, .inl (fun _ => 0))), (pg, .inr (3, [.int 400, .int 0, .int 0, .int 0, .int 0, .int 0]))] sz) [] [] t) (va_A [(x, .inr (0, [.ref rt, .ref dr, .int 0, .int 0, .ref bs, .ref df, .ref ch, .ref pg, .int rs])), (rt, .inl (cR, 16, .inl (fun _ => 0))), (pg, .inr (3, [.int 400, .int 0, .int 0, .int 0, .int 0, .int 0]))] sz)) 0 0 (va_A [(x, .inr (0, [.ref rt, .ref dr, .int 0, .int 0, .ref bs, .ref df, .ref ch, .ref pg, .int rs])), (rt, .inl (cR, 16, .inl (fun _ => 0))), (pg, .inr (3, [.int 400, .int 0, .int 0, .int 0, .int 0, .int 0]))] sz) := by
  refine Met.ofW (cc := cV_withdraw) (maxL := 4) (ret := (some .boolean)) (by decide) rfl ?_
  intro p e s m args below meth c s₁ B hml hv
  obtain ⟨rfl, hv⟩ := hv
  have hx := B.exec
  have hb := B.bytes
  have hr := B.returns
  have hts : ∀ w ∈ aw, w.before _ s = true := fun w h => atoms_spec (ws := (.code yV_withdraw cV_withdraw 4 (some .boolean) :: aw)) B.pre w (List.mem_cons_of_mem _ h)
  have hown : s.vm.findClass RV = some m.cls := findClass_of_methodNamed B.named
  have hlocks := B.notSynchronized
  obtain ⟨hsz, hP, hK, hD0⟩ := hv
  subst hsz
  have hD := hD0.self (sz := s.heap.size)
  generalize hAe : va_A [(x, .inr (0, [.ref rt, .ref dr, .int 0, .int 0, .ref bs, .ref df, .ref ch, .ref pg, .int rs])), (rt, .inl (cR, 16, .inl (fun _ => 0))), (pg, .inr (3, [.int 400, .int 0, .int 0, .int 0, .int 0, .int 0]))] s.heap.size = A at hD ⊢
  have hA : ∀ q : Nat, s.heap.size ≤ q → A q := fun q h => by rw [← hAe]; exact Or.inr h
  obtain ⟨H, hH⟩ : ∃ H, H = s.heap := ⟨_, rfl⟩
  have hS : va_S A s.heap H [] := by rw [hH]; exact va_S.rf
  rw [← hH] at hP ⊢
  have hP : va_P (dC, dI) kCl [(x, .inr (0, [.ref rt, .ref dr, .int 0, .int 0, .ref bs, .ref df, .ref ch, .ref pg, .int rs])), (rt, .inl (cR, 16, .inl (fun _ => 0))), (pg, .inr (3, [.int 400, .int 0, .int 0, .int 0, .int 0, .int 0]))] H := hP
  have hl := lv_entry ([.ref x, .int dd, .int vv, .int pp]) (n := 4) (Nat.le_of_ble_eq_true rfl)
  rw [lg_entry_eq]
  generalize (lg_sl ([.ref x, .int dd, .int vv, .int pp]) ++ List.replicate (4 - (lg_sl ([.ref x, .int dd, .int vv, .int pp])).length) Slot.unset).toArray = ls at hl ⊢
  have hl : lv_has ls 4 [(0, .ref x), (1, .int dd), (2, .int vv), (3, .int pp)] := hl
  refine lv_aload_n (pc := 0) hx hb dV_withdraw_0 rfl (lv_at hl 0 rfl) ?_
  refine va_csv (pc := 1) (W.runV (As := []) (rest := []) ⟨hx, hb, hml, hown, hts⟩ (v_needPower l dC dI x rt dr bs df ch pg rs) (cwV 0 hts (gV wd_70 wd_71 wd_72 wd_35 wd_69) rfl rfl rfl (by decide +kernel) ⟨Nat.le_of_ble_eq_true rfl, Nat.le_of_ble_eq_true rfl⟩) ⟨pR_blind, va_recv (q := (RV, TV, 9)) (q0 := 0) (ci := 0) hK hP rfl rfl, pR_pre (hP.sub (ws' := [(x, .inr (0, [.ref rt, .ref dr, .int 0, .int 0, .ref bs, .ref df, .ref ch, .ref pg, .int rs])), (pg, .inr (3, [.int 400, .int 0, .int 0, .int 0, .int 0, .int 0]))]) [0, 2] rfl) (hK.sub (tys' := []) [] rfl)⟩ rfl rfl hl.1 rfl (lv_room (Nat.le_of_ble_eq_true rfl)) dV_withdraw_1 ⟨Nat.le_of_ble_eq_true rfl, Nat.le_of_ble_eq_true rfl⟩) (fun hr2 => ?_)
  refine lv_aload_n (pc := 4) hx hb dV_withdraw_4 rfl (lv_at hl 0 rfl) ?_
  refine lv_iload_n (pc := 5) hx hb dV_withdraw_5 rfl (lv_at hl 1 rfl) ?_
  refine lv_iload_n (pc := 6) hx hb dV_withdraw_6 rfl (lv_at hl 2 rfl) ?_
  refine lv_iconst (pc := 7) (v := 3) hx hb dV_withdraw_7 (by decide) ?_
  refine lv_aload_n (pc := 8) hx hb dV_withdraw_8 rfl (lv_at hl 0 rfl) ?_
  refine lv_iload_n (pc := 9) hx hb dV_withdraw_9 rfl (lv_at hl 1 rfl) ?_
  refine lv_iload_n (pc := 10) hx hb dV_withdraw_10 rfl (lv_at hl 2 rfl) ?_
  refine lv_iload_n (pc := 11) hx hb dV_withdraw_11 rfl (lv_at hl 3 rfl) ?_
  refine vp_callSi (pc := 12) (W.runV (As := [.int dd, .int vv, .int pp]) (rest := [.int 3, .int vv, .int dd, .ref x]) ⟨hx, hb, hml, hown, hts⟩ (v_withdrawRefusal l dC dI x rt dr bs df ch pg rs cR dd vv pp) (cwV 3 hts (gV wd_98 wd_99 wd_100 wd_35 wd_97) rfl rfl rfl (by decide +kernel) ⟨Nat.le_of_ble_eq_true rfl, Nat.le_of_ble_eq_true rfl⟩) ⟨pR_blind, va_recv (q := (RV, TV, 9)) (q0 := 0) (ci := 0) hK hP rfl rfl, pR_pre (hP.sub (ws' := [(x, .inr (0, [.ref rt, .ref dr, .int 0, .int 0, .ref bs, .ref df, .ref ch, .ref pg, .int rs])), (rt, .inl (cR, 16, .inl (fun _ => 0)))]) [0, 1] rfl) (hK.sub (tys' := [(cR, .int)]) [0] rfl)⟩ rfl rfl hl.1 rfl (lv_room (Nat.le_of_ble_eq_true rfl)) dV_withdraw_12 ⟨Nat.le_of_ble_eq_true rfl, Nat.le_of_ble_eq_true rfl⟩) (fun r3 hr4 => ?_)
  obtain rfl : r3 = 1 := hr4
  have hPc := hP.sub (ws' := [(x, .inr (0, [.ref rt, .ref dr, .int 0, .int 0, .ref bs, .ref df, .ref ch, .ref pg, .int rs]))]) [0] rfl
  have hDc := hD.sub (ws' := [(x, .inr (0, [.ref rt, .ref dr, .int 0, .int 0, .ref bs, .ref df, .ref ch, .ref pg, .int rs]))]) [0] (by decide) rfl
  have hKc := hK.sub (tys' := []) [] rfl
  have hFc := va_free (wc := [(x, .inr (0, [.ref rt, .ref dr, .int 0, .int 0, .ref bs, .ref df, .ref ch, .ref pg, .int rs]))]) hD hS hA [0] rfl
  refine va_calli (pc := 15) (va_runV (As := [.int dd, .int vv, .int 3, .int 1]) (rest := []) ⟨hx, hb, hml, hown, hts⟩ (v_becomes l dC dI H.size x rt dr bs df ch pg rs dd vv 3 1 (by decide)) (cwV 4 hts (gV wd_90 wd_91 wd_92 wd_35 wd_89) rfl rfl rfl (by decide +kernel) ⟨Nat.le_of_ble_eq_true rfl, Nat.le_of_ble_eq_true rfl⟩) ⟨pW_blind, va_recv (q := (RV, TV, 9)) (q0 := 0) (ci := 0) hK hP rfl rfl, pW_pre hPc hKc hDc⟩ rfl rfl hl.1 rfl (lv_room (Nat.le_of_ble_eq_true rfl)) dV_withdraw_15 ⟨Nat.le_of_ble_eq_true rfl, Nat.le_of_ble_eq_true rfl⟩) hS (fun q _ h => hFc q h) hFc (fun r5 u t H1 locs ht hvm hr6 hB hz1 hk1 hS => ?_)
  obtain ⟨hP1, hK1, hD1⟩ := hB
  rw [ht] at hP1
  have hK1 := va_K.moved hvm.symm hK1
  obtain ⟨hP, hD⟩ := va_join (wr := [(rt, .inl (cR, 16, .inl (fun _ => 0))), (pg, .inr (3, [.int 400, .int 0, .int 0, .int 0, .int 0, .int 0]))]) (w1 := []) hP hD [0] [1, 2] rfl rfl (by decide) (by decide) hk1 hFc hP1 hD1
  generalize H1 = H at hP hS ⊢
  have hP : va_P (dC, dI) kCl [(rt, .inl (cR, 16, .inl (fun _ => 0))), (pg, .inr (3, [.int 400, .int 0, .int 0, .int 0, .int 0, .int 0]))] H := hP
  have hD : va_D A [(rt, .inl (cR, 16, .inl (fun _ => 0))), (pg, .inr (3, [.int 400, .int 0, .int 0, .int 0, .int 0, .int 0]))] := hD
  refine W.widen (k := 0) (n := 0) (Nat.le_of_ble_eq_true rfl) (Nat.le_of_ble_eq_true rfl) ?_
  obtain rfl : r5 = 0 := hr6
  have hP9 := hP.sub (ws' := []) [] rfl
  have hD9 := hD.sub (ws' := []) [] (by decide) rfl
  have hK9 := hK.sub (tys' := []) [] rfl
  exact W.zret (pc := 18) hx hb hr rfl (fun t ht hW => ⟨⟨_, (), rfl, rfl, by rw [ht]; exact hP9, va_K.moved hW.alike hK9, hD9⟩, hS.F ht⟩) hS.2.2 dV_withdraw_18
set_option maxHeartbeats 4000000 in
set_option maxRecDepth 100000 in
theorem p_write (l : Launch) (dC : Nat → ClassId) (dI : Nat → Nat → Nat) (sz : Nat) (pg : Nat) : Met l yP_write (.code yP_write cP_write 2 none :: aw) ({ frames := 0, cells := 0, slots := 0, locals := 0 }) (pW (dC, dI) sz [(pg, .inr (3, [.int 400, .int 0, .int 0, .int 0, .int 0, .int 0]))] [] [.ref pg, .int 1]) (va_Qv (fun (_ : Unit) => True) (fun _ t => wW (dC, dI) (va_A [(pg, .inr (3, [.int 400, .int 0, .int 0, .int 0, .int 0, .int 0]))] sz) [(pg, .inr (3, [.int 399, .int 1, .int 0, .int 0, .int 0, .int 0]))] [] t) (va_A [(pg, .inr (3, [.int 400, .int 0, .int 0, .int 0, .int 0, .int 0]))] sz)) 0 0 (va_A [(pg, .inr (3, [.int 400, .int 0, .int 0, .int 0, .int 0, .int 0]))] sz) := by
  refine Met.ofW (cc := cP_write) (maxL := 2) (ret := none) (by decide) rfl ?_
  intro p e s m args below meth c s₁ B hml hv
  obtain ⟨rfl, hv⟩ := hv
  have hx := B.exec
  have hb := B.bytes
  have hr := B.returns
  have hts : ∀ w ∈ aw, w.before _ s = true := fun w h => atoms_spec (ws := (.code yP_write cP_write 2 none :: aw)) B.pre w (List.mem_cons_of_mem _ h)
  have hown : s.vm.findClass RP = some m.cls := findClass_of_methodNamed B.named
  have hlocks := B.notSynchronized
  obtain ⟨hsz, hP, hK, hD0⟩ := hv
  subst hsz
  have hD := hD0.self (sz := s.heap.size)
  generalize hAe : va_A [(pg, .inr (3, [.int 400, .int 0, .int 0, .int 0, .int 0, .int 0]))] s.heap.size = A at hD ⊢
  have hA : ∀ q : Nat, s.heap.size ≤ q → A q := fun q h => by rw [← hAe]; exact Or.inr h
  obtain ⟨H, hH⟩ : ∃ H, H = s.heap := ⟨_, rfl⟩
  have hS : va_S A s.heap H [] := by rw [hH]; exact va_S.rf
  rw [← hH] at hP ⊢
  have hP : va_P (dC, dI) kCl [(pg, .inr (3, [.int 400, .int 0, .int 0, .int 0, .int 0, .int 0]))] H := hP
  have hl := lv_entry ([.ref pg, .int 1]) (n := 2) (Nat.le_of_ble_eq_true rfl)
  rw [lg_entry_eq]
  generalize (lg_sl ([.ref pg, .int 1]) ++ List.replicate (2 - (lg_sl ([.ref pg, .int 1])).length) Slot.unset).toArray = ls at hl ⊢
  have hl : lv_has ls 2 [(0, .ref pg), (1, .int 1)] := hl
  refine lv_aload_n (pc := 0) hx hb dP_write_0 rfl (lv_at hl 0 rfl) ?_
  refine lv_dup (pc := 1) hx hb dP_write_1 rfl ?_
  refine va_get (D := (dC, dI)) (cl := kCl) (C := RP) (T := TP) (N := 6) (pc := 2) hx hb hts inP hown hK hP 0 rfl rfl 0 (by decide) (hts _ wd_101) (fun _ h9 => h9) rfl dP_write_2 ?_
  refine lv_iload_n (pc := 5) hx hb dP_write_5 rfl (lv_at hl 1 rfl) ?_
  refine lv_isub (pc := 6) hx hb dP_write_6 ?_
  refine lv_topi (fun z1 hz2 => ?_)
  obtain rfl : z1 = 399 := hz2.trans (by decide)
  refine va_put (D := (dC, dI)) (cl := kCl) (ci := 3) (v := .int 399) (ty := .int) (C := RP) (T := TP) (N := 6) (pc := 7) hx hb hts inP tyP tyP_ok nmP hown hK hP hD hS 0 rfl rfl 0 (by decide) (hts _ wd_101) (fun _ h9 => h9) rfl (by decide +kernel) rfl rfl (Nat.le_of_ble_eq_true rfl) dP_write_7 (fun H locs hP hD hS => ?_)
  have hP : va_P (dC, dI) kCl [(pg, .inr (3, [.int 399, .int 0, .int 0, .int 0, .int 0, .int 0]))] H := hP
  have hD : va_D A [(pg, .inr (3, [.int 399, .int 0, .int 0, .int 0, .int 0, .int 0]))] := hD
  refine lv_aload_n (pc := 10) hx hb dP_write_10 rfl (lv_at hl 0 rfl) ?_
  refine lv_dup (pc := 11) hx hb dP_write_11 rfl ?_
  refine va_get (D := (dC, dI)) (cl := kCl) (C := RP) (T := TP) (N := 6) (pc := 12) hx hb hts inP hown hK hP 0 rfl rfl 1 (by decide) (hts _ wd_102) (fun _ h9 => h9) rfl dP_write_12 ?_
  refine lv_iconst (pc := 15) (v := 1) hx hb dP_write_15 (by decide) ?_
  refine lv_iadd (pc := 16) hx hb dP_write_16 ?_
  refine lv_topi (fun z3 hz4 => ?_)
  obtain rfl : z3 = 1 := hz4.trans (by decide)
  refine va_put (D := (dC, dI)) (cl := kCl) (ci := 3) (v := .int 1) (ty := .int) (C := RP) (T := TP) (N := 6) (pc := 17) hx hb hts inP tyP tyP_ok nmP hown hK hP hD hS 0 rfl rfl 1 (by decide) (hts _ wd_102) (fun _ h9 => h9) rfl (by decide +kernel) rfl rfl (Nat.le_of_ble_eq_true rfl) dP_write_17 (fun H locs hP hD hS => ?_)
  have hP : va_P (dC, dI) kCl [(pg, .inr (3, [.int 399, .int 1, .int 0, .int 0, .int 0, .int 0]))] H := hP
  have hD : va_D A [(pg, .inr (3, [.int 399, .int 1, .int 0, .int 0, .int 0, .int 0]))] := hD
  refine lv_aload_n (pc := 20) hx hb dP_write_20 rfl (lv_at hl 0 rfl) ?_
  refine va_get (D := (dC, dI)) (cl := kCl) (C := RP) (T := TP) (N := 6) (pc := 21) hx hb hts inP hown hK hP 0 rfl rfl 4 (by decide) (hts _ wd_54) (fun _ h9 => h9) rfl dP_write_21 ?_
  refine lv_if_eq (pc := 24) (tgt := 37) hx hb dP_write_24 rfl (fun h5 => ?_) (fun h5 => absurd h5 (by decide))
  have hP9 := hP.sub (ws' := [(pg, .inr (3, [.int 399, .int 1, .int 0, .int 0, .int 0, .int 0]))]) [0] rfl
  have hD9 := hD.sub (ws' := [(pg, .inr (3, [.int 399, .int 1, .int 0, .int 0, .int 0, .int 0]))]) [0] (by decide) rfl
  have hK9 := hK.sub (tys' := []) [] rfl
  exact W.vret (pc := 37) hx hb hr (fun t ht hW => ⟨⟨(), rfl, trivial, by rw [ht]; exact hP9, va_K.moved hW.alike hK9, hD9⟩, hS.F ht⟩) hS.2.2 dP_write_37
set_option maxHeartbeats 4000000 in
set_option maxRecDepth 100000 in
theorem p_areLow (l : Launch) (dC : Nat → ClassId) (dI : Nat → Nat → Nat) (pg : Nat) : Met l yP_areLow (.code yP_areLow cP_areLow 1 (some .boolean) :: aw) ({ frames := 0, cells := 0, slots := 0, locals := 0 }) (pR (dC, dI) [(pg, .inr (3, [.int 399, .int 1, .int 0, .int 0, .int 0, .int 0]))] [] [.ref pg]) (vp_Si (fun r => r = 0)) 0 0 (fun _ => False) := by
  refine Met.ofW (cc := cP_areLow) (maxL := 1) (ret := (some .boolean)) (by decide) rfl ?_
  intro p e s m args below meth c s₁ B hml hv
  obtain ⟨rfl, hv⟩ := hv
  have hx := B.exec
  have hb := B.bytes
  have hr := B.returns
  have hts : ∀ w ∈ aw, w.before _ s = true := fun w h => atoms_spec (ws := (.code yP_areLow cP_areLow 1 (some .boolean) :: aw)) B.pre w (List.mem_cons_of_mem _ h)
  have hown : s.vm.findClass RP = some m.cls := findClass_of_methodNamed B.named
  have hlocks := B.notSynchronized
  obtain ⟨hP, hK⟩ := hv
  obtain ⟨H, hH⟩ : ∃ H, H = s.heap := ⟨_, rfl⟩
  rw [← hH] at hP ⊢
  have hl := lv_entry ([.ref pg]) (n := 1) (Nat.le_of_ble_eq_true rfl)
  rw [lg_entry_eq]
  generalize (lg_sl ([.ref pg]) ++ List.replicate (1 - (lg_sl ([.ref pg])).length) Slot.unset).toArray = ls at hl ⊢
  have hl : lv_has ls 1 [(0, .ref pg)] := hl
  refine lv_aload_n (pc := 0) hx hb dP_areLow_0 rfl (lv_at hl 0 rfl) ?_
  refine va_get (D := (dC, dI)) (cl := kCl) (C := RP) (T := TP) (N := 6) (pc := 1) hx hb hts inP hown hK hP 0 rfl rfl 0 (by decide) (hts _ wd_101) (fun _ h9 => h9) rfl dP_areLow_1 ?_
  refine lv_bipush (pc := 4) (v := 40) hx hb dP_areLow_4 (by decide) ?_
  refine lv_icmp_ge (pc := 6) (tgt := 13) hx hb dP_areLow_6 rfl (fun h1 => ?_) (fun h1 => absurd h1 (by decide))
  refine lv_iconst (pc := 13) (v := 0) hx hb dP_areLow_13 (by decide) ?_
  exact W.zret (pc := 14) hx hb hr rfl (fun t ht hW => ⟨_, rfl, rfl, ht.trans hH⟩) (fun q h => nomatch h) dP_areLow_14
set_option maxHeartbeats 4000000 in
set_option maxRecDepth 100000 in
theorem v_finish (l : Launch) (dC : Nat → ClassId) (dI : Nat → Nat → Nat) (sz : Nat) (x : Nat) (rt : Nat) (dr : Nat) (bs : Nat) (df : Nat) (ch : Nat) (pg : Nat) (rs : Int32) : Met l yV_finish (.code yV_finish cV_finish 3 none :: aw) ({ frames := 1, cells := 0, slots := 0, locals := 21 }) (pW (dC, dI) sz [(x, .inr (0, [.ref rt, .ref dr, .int 0, .int 0, .ref bs, .ref df, .ref ch, .ref pg, .int rs])), (pg, .inr (3, [.int 400, .int 0, .int 0, .int 0, .int 0, .int 0]))] [] [.ref x, .int 1]) (va_Qv (fun (_ : Unit) => True) (fun _ t => wW (dC, dI) (va_A [(x, .inr (0, [.ref rt, .ref dr, .int 0, .int 0, .ref bs, .ref df, .ref ch, .ref pg, .int rs])), (pg, .inr (3, [.int 400, .int 0, .int 0, .int 0, .int 0, .int 0]))] sz) [] [] t) (va_A [(x, .inr (0, [.ref rt, .ref dr, .int 0, .int 0, .ref bs, .ref df, .ref ch, .ref pg, .int rs])), (pg, .inr (3, [.int 400, .int 0, .int 0, .int 0, .int 0, .int 0]))] sz)) 0 0 (va_A [(x, .inr (0, [.ref rt, .ref dr, .int 0, .int 0, .ref bs, .ref df, .ref ch, .ref pg, .int rs])), (pg, .inr (3, [.int 400, .int 0, .int 0, .int 0, .int 0, .int 0]))] sz) := by
  refine Met.ofW (cc := cV_finish) (maxL := 3) (ret := none) (by decide) rfl ?_
  intro p e s m args below meth c s₁ B hml hv
  obtain ⟨rfl, hv⟩ := hv
  have hx := B.exec
  have hb := B.bytes
  have hr := B.returns
  have hts : ∀ w ∈ aw, w.before _ s = true := fun w h => atoms_spec (ws := (.code yV_finish cV_finish 3 none :: aw)) B.pre w (List.mem_cons_of_mem _ h)
  have hown : s.vm.findClass RV = some m.cls := findClass_of_methodNamed B.named
  have hlocks := B.notSynchronized
  obtain ⟨hsz, hP, hK, hD0⟩ := hv
  subst hsz
  have hD := hD0.self (sz := s.heap.size)
  generalize hAe : va_A [(x, .inr (0, [.ref rt, .ref dr, .int 0, .int 0, .ref bs, .ref df, .ref ch, .ref pg, .int rs])), (pg, .inr (3, [.int 400, .int 0, .int 0, .int 0, .int 0, .int 0]))] s.heap.size = A at hD ⊢
  have hA : ∀ q : Nat, s.heap.size ≤ q → A q := fun q h => by rw [← hAe]; exact Or.inr h
  obtain ⟨H, hH⟩ : ∃ H, H = s.heap := ⟨_, rfl⟩
  have hS : va_S A s.heap H [] := by rw [hH]; exact va_S.rf
  rw [← hH] at hP ⊢
  have hP : va_P (dC, dI) kCl [(x, .inr (0, [.ref rt, .ref dr, .int 0, .int 0, .ref bs, .ref df, .ref ch, .ref pg, .int rs])), (pg, .inr (3, [.int 400, .int 0, .int 0, .int 0, .int 0, .int 0]))] H := hP
  have hl := lv_entry ([.ref x, .int 1]) (n := 3) (Nat.le_of_ble_eq_true rfl)
  rw [lg_entry_eq]
  generalize (lg_sl ([.ref x, .int 1]) ++ List.replicate (3 - (lg_sl ([.ref x, .int 1])).length) Slot.unset).toArray = ls at hl ⊢
  have hl : lv_has ls 3 [(0, .ref x), (1, .int 1)] := hl
  refine lv_aload_n (pc := 0) hx hb dV_finish_0 rfl (lv_at hl 0 rfl) ?_
  refine va_get (D := (dC, dI)) (cl := kCl) (C := RV) (T := TV) (N := 9) (pc := 1) hx hb hts inV hown hK hP 0 rfl rfl 7 (by decide) (hts _ wd_37) (fun _ h9 => h9) rfl dV_finish_1 ?_
  refine lv_iload_n (pc := 4) hx hb dV_finish_4 rfl (lv_at hl 1 rfl) ?_
  have hPc := hP.sub (ws' := [(pg, .inr (3, [.int 400, .int 0, .int 0, .int 0, .int 0, .int 0]))]) [1] rfl
  have hDc := hD.sub (ws' := [(pg, .inr (3, [.int 400, .int 0, .int 0, .int 0, .int 0, .int 0]))]) [1] (by decide) rfl
  have hKc := hK.sub (tys' := []) [] rfl
  have hFc := va_free (wc := [(pg, .inr (3, [.int 400, .int 0, .int 0, .int 0, .int 0, .int 0]))]) hD hS hA [1] rfl
  refine va_callv (pc := 5) (va_runV (As := [.int 1]) (rest := []) ⟨hx, hb, hml, hown, hts⟩ (p_write l dC dI H.size pg) (cwV 1 hts (gV wd_104 wd_105 wd_106 wd_60 wd_103) rfl rfl rfl (by decide +kernel) ⟨Nat.le_of_ble_eq_true rfl, Nat.le_of_ble_eq_true rfl⟩) ⟨pW_blind, va_recv (q := (RP, TP, 6)) (q0 := 1) (ci := 3) hK hP rfl rfl, pW_pre hPc hKc hDc⟩ rfl rfl hl.1 rfl (lv_room (Nat.le_of_ble_eq_true rfl)) dV_finish_5 ⟨Nat.le_of_ble_eq_true rfl, Nat.le_of_ble_eq_true rfl⟩) hS (fun q _ h => hFc q h) hFc (fun u t H1 locs ht hvm hr2 hB hz1 hk1 hS => ?_)
  obtain ⟨hP1, hK1, hD1⟩ := hB
  rw [ht] at hP1
  have hK1 := va_K.moved hvm.symm hK1
  obtain ⟨hP, hD⟩ := va_join (wr := [(x, .inr (0, [.ref rt, .ref dr, .int 0, .int 0, .ref bs, .ref df, .ref ch, .ref pg, .int rs]))]) (w1 := [(pg, .inr (3, [.int 399, .int 1, .int 0, .int 0, .int 0, .int 0]))]) hP hD [1] [0] rfl rfl (by decide) (by decide) hk1 hFc hP1 hD1
  generalize H1 = H at hP hS ⊢
  have hP : va_P (dC, dI) kCl [(x, .inr (0, [.ref rt, .ref dr, .int 0, .int 0, .ref bs, .ref df, .ref ch, .ref pg, .int rs])), (pg, .inr (3, [.int 399, .int 1, .int 0, .int 0, .int 0, .int 0]))] H := hP
  have hD : va_D A [(x, .inr (0, [.ref rt, .ref dr, .int 0, .int 0, .ref bs, .ref df, .ref ch, .ref pg, .int rs])), (pg, .inr (3, [.int 399, .int 1, .int 0, .int 0, .int 0, .int 0]))] := hD
  refine W.widen (k := 0) (n := 0) (Nat.le_of_ble_eq_true rfl) (Nat.le_of_ble_eq_true rfl) ?_
  refine lv_iconst (pc := 8) (v := 0) hx hb dV_finish_8 (by decide) ?_
  refine lv_istore_n (pc := 9) hx hb dV_finish_9 rfl hl (by decide) rfl (fun ls hl => ?_)
  have hl : lv_has ls 3 [(2, .int 0), (0, .ref x), (1, .int 1)] := hl
  refine lv_iload_n (pc := 10) hx hb dV_finish_10 rfl (lv_at hl 0 rfl) ?_
  refine lv_aload_n (pc := 11) hx hb dV_finish_11 rfl (lv_at hl 1 rfl) ?_
  refine va_get (D := (dC, dI)) (cl := kCl) (C := RV) (T := TV) (N := 9) (pc := 12) hx hb hts inV hown hK hP 0 rfl rfl 2 (by decide) (hts _ wd_39) (fun _ h9 => h9) rfl dV_finish_12 ?_
  refine lv_icmp_ge (pc := 15) (tgt := 45) hx hb dV_finish_15 rfl (fun h4 => ?_) (fun h4 => absurd h4 (by decide))
  refine lv_aload_n (pc := 45) hx hb dV_finish_45 rfl (lv_at hl 1 rfl) ?_
  refine va_get (D := (dC, dI)) (cl := kCl) (C := RV) (T := TV) (N := 9) (pc := 46) hx hb hts inV hown hK hP 0 rfl rfl 7 (by decide) (hts _ wd_37) (fun _ h9 => h9) rfl dV_finish_46 ?_
  refine vp_callSi (pc := 49) (W.runV (As := []) (rest := []) ⟨hx, hb, hml, hown, hts⟩ (p_areLow l dC dI pg) (cwV 0 hts (gV wd_108 wd_109 wd_110 wd_60 wd_107) rfl rfl rfl (by decide +kernel) ⟨Nat.le_of_ble_eq_true rfl, Nat.le_of_ble_eq_true rfl⟩) ⟨pR_blind, va_recv (q := (RP, TP, 6)) (q0 := 1) (ci := 3) hK hP rfl rfl, pR_pre (hP.sub (ws' := [(pg, .inr (3, [.int 399, .int 1, .int 0, .int 0, .int 0, .int 0]))]) [1] rfl) (hK.sub (tys' := []) [] rfl)⟩ rfl rfl hl.1 rfl (lv_room (Nat.le_of_ble_eq_true rfl)) dV_finish_49 ⟨Nat.le_of_ble_eq_true rfl, Nat.le_of_ble_eq_true rfl⟩) (fun r5 hr6 => ?_)
  obtain rfl : r5 = 0 := hr6
  refine lv_if_eq (pc := 52) (tgt := 66) hx hb dV_finish_52 rfl (fun h7 => ?_) (fun h7 => absurd h7 (by decide))
  have hP9 := hP.sub (ws' := []) [] rfl
  have hD9 := hD.sub (ws' := []) [] (by decide) rfl
  have hK9 := hK.sub (tys' := []) [] rfl
  exact W.vret (pc := 66) hx hb hr (fun t ht hW => ⟨⟨(), rfl, trivial, by rw [ht]; exact hP9, va_K.moved hW.alike hK9, hD9⟩, hS.F ht⟩) hS.2.2 dV_finish_66
set_option maxHeartbeats 4000000 in
set_option maxRecDepth 100000 in
theorem v_person (l : Launch) (dC : Nat → ClassId) (dI : Nat → Nat → Nat) (sz : Nat) (x : Nat) (rt : Nat) (dr : Nat) (bs : Nat) (df : Nat) (ch : Nat) (pg : Nat) (rs : Int32) (cR : ClassId) (pp : Int32) (ri : Int32) : Met l yV_person (.code yV_person cV_person 4 (some .boolean) :: aw) ({ frames := 2, cells := 0, slots := 0, locals := 43 }) (pW (dC, dI) sz [(x, .inr (0, [.ref rt, .ref dr, .int 0, .int 0, .ref bs, .ref df, .ref ch, .ref pg, .int rs])), (rt, .inl (cR, 16, .inl (fun _ => 0))), (pg, .inr (3, [.int 400, .int 0, .int 0, .int 0, .int 0, .int 0]))] [(cR, .int)] [.ref x, .int pp, .int ri]) (va_Qi (fun r (_ : Unit) => (r = 1 ∧ (¬ pp < 0 ∧ ¬ (16 : Int32) ≤ pp ∧ ¬ ri < 0 ∧ ¬ (7 : Int32) < ri)) ∨ (r = 0 ∧ (pp < 0 ∨ (16 : Int32) ≤ pp ∨ ri < 0 ∨ (7 : Int32) < ri))) (fun _ t => wW (dC, dI) (va_A [(x, .inr (0, [.ref rt, .ref dr, .int 0, .int 0, .ref bs, .ref df, .ref ch, .ref pg, .int rs])), (rt, .inl (cR, 16, .inl (fun _ => 0))), (pg, .inr (3, [.int 400, .int 0, .int 0, .int 0, .int 0, .int 0]))] sz) [] [] t) (va_A [(x, .inr (0, [.ref rt, .ref dr, .int 0, .int 0, .ref bs, .ref df, .ref ch, .ref pg, .int rs])), (rt, .inl (cR, 16, .inl (fun _ => 0))), (pg, .inr (3, [.int 400, .int 0, .int 0, .int 0, .int 0, .int 0]))] sz)) 0 0 (va_A [(x, .inr (0, [.ref rt, .ref dr, .int 0, .int 0, .ref bs, .ref df, .ref ch, .ref pg, .int rs])), (rt, .inl (cR, 16, .inl (fun _ => 0))), (pg, .inr (3, [.int 400, .int 0, .int 0, .int 0, .int 0, .int 0]))] sz) := by
  refine Met.ofW (cc := cV_person) (maxL := 4) (ret := (some .boolean)) (by decide) rfl ?_
  intro p e s m args below meth c s₁ B hml hv
  obtain ⟨rfl, hv⟩ := hv
  have hx := B.exec
  have hb := B.bytes
  have hr := B.returns
  have hts : ∀ w ∈ aw, w.before _ s = true := fun w h => atoms_spec (ws := (.code yV_person cV_person 4 (some .boolean) :: aw)) B.pre w (List.mem_cons_of_mem _ h)
  have hown : s.vm.findClass RV = some m.cls := findClass_of_methodNamed B.named
  have hlocks := B.notSynchronized
  obtain ⟨hsz, hP, hK, hD0⟩ := hv
  subst hsz
  have hD := hD0.self (sz := s.heap.size)
  generalize hAe : va_A [(x, .inr (0, [.ref rt, .ref dr, .int 0, .int 0, .ref bs, .ref df, .ref ch, .ref pg, .int rs])), (rt, .inl (cR, 16, .inl (fun _ => 0))), (pg, .inr (3, [.int 400, .int 0, .int 0, .int 0, .int 0, .int 0]))] s.heap.size = A at hD ⊢
  have hA : ∀ q : Nat, s.heap.size ≤ q → A q := fun q h => by rw [← hAe]; exact Or.inr h
  obtain ⟨H, hH⟩ : ∃ H, H = s.heap := ⟨_, rfl⟩
  have hS : va_S A s.heap H [] := by rw [hH]; exact va_S.rf
  rw [← hH] at hP ⊢
  have hP : va_P (dC, dI) kCl [(x, .inr (0, [.ref rt, .ref dr, .int 0, .int 0, .ref bs, .ref df, .ref ch, .ref pg, .int rs])), (rt, .inl (cR, 16, .inl (fun _ => 0))), (pg, .inr (3, [.int 400, .int 0, .int 0, .int 0, .int 0, .int 0]))] H := hP
  have hl := lv_entry ([.ref x, .int pp, .int ri]) (n := 4) (Nat.le_of_ble_eq_true rfl)
  rw [lg_entry_eq]
  generalize (lg_sl ([.ref x, .int pp, .int ri]) ++ List.replicate (4 - (lg_sl ([.ref x, .int pp, .int ri])).length) Slot.unset).toArray = ls at hl ⊢
  have hl : lv_has ls 4 [(0, .ref x), (1, .int pp), (2, .int ri)] := hl
  refine lv_aload_n (pc := 0) hx hb dV_person_0 rfl (lv_at hl 0 rfl) ?_
  refine va_csv (pc := 1) (W.runV (As := []) (rest := []) ⟨hx, hb, hml, hown, hts⟩ (v_needPower l dC dI x rt dr bs df ch pg rs) (cwV 0 hts (gV wd_70 wd_71 wd_72 wd_35 wd_69) rfl rfl rfl (by decide +kernel) ⟨Nat.le_of_ble_eq_true rfl, Nat.le_of_ble_eq_true rfl⟩) ⟨pR_blind, va_recv (q := (RV, TV, 9)) (q0 := 0) (ci := 0) hK hP rfl rfl, pR_pre (hP.sub (ws' := [(x, .inr (0, [.ref rt, .ref dr, .int 0, .int 0, .ref bs, .ref df, .ref ch, .ref pg, .int rs])), (pg, .inr (3, [.int 400, .int 0, .int 0, .int 0, .int 0, .int 0]))]) [0, 2] rfl) (hK.sub (tys' := []) [] rfl)⟩ rfl rfl hl.1 rfl (lv_room (Nat.le_of_ble_eq_true rfl)) dV_person_1 ⟨Nat.le_of_ble_eq_true rfl, Nat.le_of_ble_eq_true rfl⟩) (fun hr2 => ?_)
  refine lv_iload_n (pc := 4) hx hb dV_person_4 rfl (lv_at hl 1 rfl) ?_
  refine vp_callSi (pc := 5) (W.runS (As := [.int pp]) (rest := []) ⟨hx, hb, hml, hown, hts⟩ (v_isPerson l dC dI pp) (cwS 1 hts (gS wd_33 wd_34 wd_35 wd_32) rfl rfl rfl (by decide +kernel) ⟨Nat.le_of_ble_eq_true rfl, Nat.le_of_ble_eq_true rfl⟩) ⟨pR_blind, pR_pre (hP.sub (ws' := []) [] rfl) (hK.sub (tys' := []) [] rfl)⟩ rfl rfl hl.1 rfl (lv_room (Nat.le_of_ble_eq_true rfl)) dV_person_5 ⟨Nat.le_of_ble_eq_true rfl, Nat.le_of_ble_eq_true rfl⟩) (fun r3 hr4 => ?_)
  obtain ⟨rfl, h5⟩ | ⟨rfl, h5⟩ : (r3 = 1 ∧ (¬ pp < 0 ∧ ¬ (16 : Int32) ≤ pp)) ∨ (r3 = 0 ∧ (pp < 0 ∨ (16 : Int32) ≤ pp)) := hr4
  · refine lv_if_eq (pc := 8) (tgt := 25) hx hb dV_person_8 rfl (fun h6 => absurd h6 (by decide)) (fun h6 => ?_)
    refine lv_iload_n (pc := 11) hx hb dV_person_11 rfl (lv_at hl 2 rfl) ?_
    refine lv_if_lt (pc := 12) (tgt := 25) hx hb dV_person_12 rfl (fun h7 => ?_) (fun h7 => ?_)
    · refine lv_iconst (pc := 25) (v := 0) hx hb dV_person_25 (by decide) ?_
      refine lv_istore_n (pc := 26) hx hb dV_person_26 rfl hl (by decide) rfl (fun ls hl => ?_)
      have hl : lv_has ls 4 [(3, .int 0), (0, .ref x), (1, .int pp), (2, .int ri)] := hl
      refine lv_aload_n (pc := 27) hx hb dV_person_27 rfl (lv_at hl 1 rfl) ?_
      refine lv_iload_n (pc := 28) hx hb dV_person_28 rfl (lv_at hl 0 rfl) ?_
      refine lv_if_eq (pc := 29) (tgt := 36) hx hb dV_person_29 rfl (fun h8 => ?_) (fun h8 => absurd h8 (by decide))
      refine lv_bipush (pc := 36) (v := 7) hx hb dV_person_36 (by decide) ?_
      refine lv_iconst (pc := 38) (v := 1) hx hb dV_person_38 (by decide) ?_
      have hPc := hP.sub (ws' := [(x, .inr (0, [.ref rt, .ref dr, .int 0, .int 0, .ref bs, .ref df, .ref ch, .ref pg, .int rs]))]) [0] rfl
      have hDc := hD.sub (ws' := [(x, .inr (0, [.ref rt, .ref dr, .int 0, .int 0, .ref bs, .ref df, .ref ch, .ref pg, .int rs]))]) [0] (by decide) rfl
      have hKc := hK.sub (tys' := []) [] rfl
      have hFc := va_free (wc := [(x, .inr (0, [.ref rt, .ref dr, .int 0, .int 0, .ref bs, .ref df, .ref ch, .ref pg, .int rs]))]) hD hS hA [0] rfl
      refine va_calli (pc := 39) (va_runV (As := [.int 7, .int 1]) (rest := []) ⟨hx, hb, hml, hown, hts⟩ (v_mayWrite l dC dI H.size x rt dr bs df ch pg rs 7 1 (by decide)) (cwV 2 hts (gV wd_66 wd_67 wd_68 wd_35 wd_65) rfl rfl rfl (by decide +kernel) ⟨Nat.le_of_ble_eq_true rfl, Nat.le_of_ble_eq_true rfl⟩) ⟨pW_blind, va_recv (q := (RV, TV, 9)) (q0 := 0) (ci := 0) hK hP rfl rfl, pW_pre hPc hKc hDc⟩ rfl rfl hl.1 rfl (lv_room (Nat.le_of_ble_eq_true rfl)) dV_person_39 ⟨Nat.le_of_ble_eq_true rfl, Nat.le_of_ble_eq_true rfl⟩) hS (fun q _ h => hFc q h) hFc (fun r9 u t H1 locs ht hvm hr10 hB hz1 hk1 hS => ?_)
      obtain ⟨hP1, hK1, hD1⟩ := hB
      rw [ht] at hP1
      have hK1 := va_K.moved hvm.symm hK1
      obtain ⟨hP, hD⟩ := va_join (wr := [(rt, .inl (cR, 16, .inl (fun _ => 0))), (pg, .inr (3, [.int 400, .int 0, .int 0, .int 0, .int 0, .int 0]))]) (w1 := [(x, .inr (0, [.ref rt, .ref dr, .int 0, .int 0, .ref bs, .ref df, .ref ch, .ref pg, .int 7]))]) hP hD [0] [1, 2] rfl rfl (by decide) (by decide) hk1 hFc hP1 hD1
      generalize H1 = H at hP hS ⊢
      have hP : va_P (dC, dI) kCl [(rt, .inl (cR, 16, .inl (fun _ => 0))), (pg, .inr (3, [.int 400, .int 0, .int 0, .int 0, .int 0, .int 0])), (x, .inr (0, [.ref rt, .ref dr, .int 0, .int 0, .ref bs, .ref df, .ref ch, .ref pg, .int 7]))] H := hP
      have hD : va_D A [(rt, .inl (cR, 16, .inl (fun _ => 0))), (pg, .inr (3, [.int 400, .int 0, .int 0, .int 0, .int 0, .int 0])), (x, .inr (0, [.ref rt, .ref dr, .int 0, .int 0, .ref bs, .ref df, .ref ch, .ref pg, .int 7]))] := hD
      refine W.widen (k := 0) (n := 0) (Nat.le_of_ble_eq_true rfl) (Nat.le_of_ble_eq_true rfl) ?_
      obtain rfl : r9 = 0 := hr10
      refine lv_if_ne (pc := 42) (tgt := 47) hx hb dV_person_42 rfl (fun h12 => absurd h12 (by decide)) (fun h12 => ?_)
      refine lv_iconst (pc := 45) (v := 0) hx hb dV_person_45 (by decide) ?_
      have hP9 := hP.sub (ws' := []) [] rfl
      have hD9 := hD.sub (ws' := []) [] (by decide) rfl
      have hK9 := hK.sub (tys' := []) [] rfl
      exact W.zret (pc := 46) hx hb hr rfl (fun t ht hW => ⟨⟨_, (), rfl, (Or.inr ⟨rfl, Or.inr (Or.inr (Or.inl h7))⟩), by rw [ht]; exact hP9, va_K.moved hW.alike hK9, hD9⟩, hS.F ht⟩) hS.2.2 dV_person_46
    · refine lv_iload_n (pc := 15) hx hb dV_person_15 rfl (lv_at hl 2 rfl) ?_
      refine lv_bipush (pc := 16) (v := 7) hx hb dV_person_16 (by decide) ?_
      refine lv_icmp_gt (pc := 18) (tgt := 25) hx hb dV_person_18 rfl (fun h13 => ?_) (fun h13 => ?_)
      · refine lv_iconst (pc := 25) (v := 0) hx hb dV_person_25 (by decide) ?_
        refine lv_istore_n (pc := 26) hx hb dV_person_26 rfl hl (by decide) rfl (fun ls hl => ?_)
        have hl : lv_has ls 4 [(3, .int 0), (0, .ref x), (1, .int pp), (2, .int ri)] := hl
        refine lv_aload_n (pc := 27) hx hb dV_person_27 rfl (lv_at hl 1 rfl) ?_
        refine lv_iload_n (pc := 28) hx hb dV_person_28 rfl (lv_at hl 0 rfl) ?_
        refine lv_if_eq (pc := 29) (tgt := 36) hx hb dV_person_29 rfl (fun h14 => ?_) (fun h14 => absurd h14 (by decide))
        refine lv_bipush (pc := 36) (v := 7) hx hb dV_person_36 (by decide) ?_
        refine lv_iconst (pc := 38) (v := 1) hx hb dV_person_38 (by decide) ?_
        have hPc := hP.sub (ws' := [(x, .inr (0, [.ref rt, .ref dr, .int 0, .int 0, .ref bs, .ref df, .ref ch, .ref pg, .int rs]))]) [0] rfl
        have hDc := hD.sub (ws' := [(x, .inr (0, [.ref rt, .ref dr, .int 0, .int 0, .ref bs, .ref df, .ref ch, .ref pg, .int rs]))]) [0] (by decide) rfl
        have hKc := hK.sub (tys' := []) [] rfl
        have hFc := va_free (wc := [(x, .inr (0, [.ref rt, .ref dr, .int 0, .int 0, .ref bs, .ref df, .ref ch, .ref pg, .int rs]))]) hD hS hA [0] rfl
        refine va_calli (pc := 39) (va_runV (As := [.int 7, .int 1]) (rest := []) ⟨hx, hb, hml, hown, hts⟩ (v_mayWrite l dC dI H.size x rt dr bs df ch pg rs 7 1 (by decide)) (cwV 2 hts (gV wd_66 wd_67 wd_68 wd_35 wd_65) rfl rfl rfl (by decide +kernel) ⟨Nat.le_of_ble_eq_true rfl, Nat.le_of_ble_eq_true rfl⟩) ⟨pW_blind, va_recv (q := (RV, TV, 9)) (q0 := 0) (ci := 0) hK hP rfl rfl, pW_pre hPc hKc hDc⟩ rfl rfl hl.1 rfl (lv_room (Nat.le_of_ble_eq_true rfl)) dV_person_39 ⟨Nat.le_of_ble_eq_true rfl, Nat.le_of_ble_eq_true rfl⟩) hS (fun q _ h => hFc q h) hFc (fun r15 u t H1 locs ht hvm hr16 hB hz1 hk1 hS => ?_)
        obtain ⟨hP1, hK1, hD1⟩ := hB
        rw [ht] at hP1
        have hK1 := va_K.moved hvm.symm hK1
        obtain ⟨hP, hD⟩ := va_join (wr := [(rt, .inl (cR, 16, .inl (fun _ => 0))), (pg, .inr (3, [.int 400, .int 0, .int 0, .int 0, .int 0, .int 0]))]) (w1 := [(x, .inr (0, [.ref rt, .ref dr, .int 0, .int 0, .ref bs, .ref df, .ref ch, .ref pg, .int 7]))]) hP hD [0] [1, 2] rfl rfl (by decide) (by decide) hk1 hFc hP1 hD1
        generalize H1 = H at hP hS ⊢
        have hP : va_P (dC, dI) kCl [(rt, .inl (cR, 16, .inl (fun _ => 0))), (pg, .inr (3, [.int 400, .int 0, .int 0, .int 0, .int 0, .int 0])), (x, .inr (0, [.ref rt, .ref dr, .int 0, .int 0, .ref bs, .ref df, .ref ch, .ref pg, .int 7]))] H := hP
        have hD : va_D A [(rt, .inl (cR, 16, .inl (fun _ => 0))), (pg, .inr (3, [.int 400, .int 0, .int 0, .int 0, .int 0, .int 0])), (x, .inr (0, [.ref rt, .ref dr, .int 0, .int 0, .ref bs, .ref df, .ref ch, .ref pg, .int 7]))] := hD
        refine W.widen (k := 0) (n := 0) (Nat.le_of_ble_eq_true rfl) (Nat.le_of_ble_eq_true rfl) ?_
        obtain rfl : r15 = 0 := hr16
        refine lv_if_ne (pc := 42) (tgt := 47) hx hb dV_person_42 rfl (fun h18 => absurd h18 (by decide)) (fun h18 => ?_)
        refine lv_iconst (pc := 45) (v := 0) hx hb dV_person_45 (by decide) ?_
        have hP9 := hP.sub (ws' := []) [] rfl
        have hD9 := hD.sub (ws' := []) [] (by decide) rfl
        have hK9 := hK.sub (tys' := []) [] rfl
        exact W.zret (pc := 46) hx hb hr rfl (fun t ht hW => ⟨⟨_, (), rfl, (Or.inr ⟨rfl, Or.inr (Or.inr (Or.inr h13))⟩), by rw [ht]; exact hP9, va_K.moved hW.alike hK9, hD9⟩, hS.F ht⟩) hS.2.2 dV_person_46
      · refine lv_iconst (pc := 21) (v := 1) hx hb dV_person_21 (by decide) ?_
        refine lv_goto (pc := 22) (tgt := 26) hx hb dV_person_22 rfl ?_
        refine lv_istore_n (pc := 26) hx hb dV_person_26 rfl hl (by decide) rfl (fun ls hl => ?_)
        have hl : lv_has ls 4 [(3, .int 1), (0, .ref x), (1, .int pp), (2, .int ri)] := hl
        refine lv_aload_n (pc := 27) hx hb dV_person_27 rfl (lv_at hl 1 rfl) ?_
        refine lv_iload_n (pc := 28) hx hb dV_person_28 rfl (lv_at hl 0 rfl) ?_
        refine lv_if_eq (pc := 29) (tgt := 36) hx hb dV_person_29 rfl (fun h19 => absurd h19 (by decide)) (fun h19 => ?_)
        refine lv_iconst (pc := 32) (v := 0) hx hb dV_person_32 (by decide) ?_
        refine lv_goto (pc := 33) (tgt := 38) hx hb dV_person_33 rfl ?_
        refine lv_iconst (pc := 38) (v := 1) hx hb dV_person_38 (by decide) ?_
        have hPc := hP.sub (ws' := [(x, .inr (0, [.ref rt, .ref dr, .int 0, .int 0, .ref bs, .ref df, .ref ch, .ref pg, .int rs])), (pg, .inr (3, [.int 400, .int 0, .int 0, .int 0, .int 0, .int 0]))]) [0, 2] rfl
        have hDc := hD.sub (ws' := [(x, .inr (0, [.ref rt, .ref dr, .int 0, .int 0, .ref bs, .ref df, .ref ch, .ref pg, .int rs])), (pg, .inr (3, [.int 400, .int 0, .int 0, .int 0, .int 0, .int 0]))]) [0, 2] (by decide) rfl
        have hKc := hK.sub (tys' := []) [] rfl
        have hFc := va_free (wc := [(x, .inr (0, [.ref rt, .ref dr, .int 0, .int 0, .ref bs, .ref df, .ref ch, .ref pg, .int rs])), (pg, .inr (3, [.int 400, .int 0, .int 0, .int 0, .int 0, .int 0]))]) hD hS hA [0, 2] rfl
        refine va_calli (pc := 39) (va_runV (As := [.int 0, .int 1]) (rest := []) ⟨hx, hb, hml, hown, hts⟩ (v_mayWrite1 l dC dI H.size x rt dr bs df ch pg rs) (cwV 2 hts (gV wd_66 wd_67 wd_68 wd_35 wd_65) rfl rfl rfl (by decide +kernel) ⟨Nat.le_of_ble_eq_true rfl, Nat.le_of_ble_eq_true rfl⟩) ⟨pW_blind, va_recv (q := (RV, TV, 9)) (q0 := 0) (ci := 0) hK hP rfl rfl, pW_pre hPc hKc hDc⟩ rfl rfl hl.1 rfl (lv_room (Nat.le_of_ble_eq_true rfl)) dV_person_39 ⟨Nat.le_of_ble_eq_true rfl, Nat.le_of_ble_eq_true rfl⟩) hS (fun q _ h => hFc q h) hFc (fun r20 u t H1 locs ht hvm hr21 hB hz1 hk1 hS => ?_)
        obtain ⟨hP1, hK1, hD1⟩ := hB
        rw [ht] at hP1
        have hK1 := va_K.moved hvm.symm hK1
        obtain ⟨hP, hD⟩ := va_join (wr := [(rt, .inl (cR, 16, .inl (fun _ => 0)))]) (w1 := [(x, .inr (0, [.ref rt, .ref dr, .int 0, .int 0, .ref bs, .ref df, .ref ch, .ref pg, .int 0])), (pg, .inr (3, [.int 400, .int 0, .int 0, .int 0, .int 0, .int 0]))]) hP hD [0, 2] [1] rfl rfl (by decide) (by decide) hk1 hFc hP1 hD1
        generalize H1 = H at hP hS ⊢
        have hP : va_P (dC, dI) kCl [(rt, .inl (cR, 16, .inl (fun _ => 0))), (x, .inr (0, [.ref rt, .ref dr, .int 0, .int 0, .ref bs, .ref df, .ref ch, .ref pg, .int 0])), (pg, .inr (3, [.int 400, .int 0, .int 0, .int 0, .int 0, .int 0]))] H := hP
        have hD : va_D A [(rt, .inl (cR, 16, .inl (fun _ => 0))), (x, .inr (0, [.ref rt, .ref dr, .int 0, .int 0, .ref bs, .ref df, .ref ch, .ref pg, .int 0])), (pg, .inr (3, [.int 400, .int 0, .int 0, .int 0, .int 0, .int 0]))] := hD
        refine W.widen (k := 0) (n := 0) (Nat.le_of_ble_eq_true rfl) (Nat.le_of_ble_eq_true rfl) ?_
        obtain rfl : r20 = 1 := hr21
        refine lv_if_ne (pc := 42) (tgt := 47) hx hb dV_person_42 rfl (fun h23 => ?_) (fun h23 => absurd h23 (by decide))
        refine lv_aload_n (pc := 47) hx hb dV_person_47 rfl (lv_at hl 1 rfl) ?_
        refine va_get (D := (dC, dI)) (cl := kCl) (C := RV) (T := TV) (N := 9) (pc := 48) hx hb hts inV hown hK hP 1 rfl rfl 0 (by decide) (hts _ wd_36) (fun _ h9 => h9) rfl dV_person_48 ?_
        refine lv_iload_n (pc := 51) hx hb dV_person_51 rfl (lv_at hl 2 rfl) ?_
        refine lv_iload_n (pc := 52) hx hb dV_person_52 rfl (lv_at hl 3 rfl) ?_
        refine va_iast (D := (dC, dI)) (cl := kCl) (pc := 53) hx hb hK hP hD hS 0 0 rfl rfl (vin_of (k := 16) (by decide) h5.1 h5.2) dV_person_53 (fun H locs hP hD hS => ?_)
        have hP : va_P (dC, dI) kCl [(rt, .inl (cR, 16, .inl (upd (fun _ => 0) (pp : Int32).toNatClampNeg ri))), (x, .inr (0, [.ref rt, .ref dr, .int 0, .int 0, .ref bs, .ref df, .ref ch, .ref pg, .int 0])), (pg, .inr (3, [.int 400, .int 0, .int 0, .int 0, .int 0, .int 0]))] H := hP
        have hD : va_D A [(rt, .inl (cR, 16, .inl (upd (fun _ => 0) (pp : Int32).toNatClampNeg ri))), (x, .inr (0, [.ref rt, .ref dr, .int 0, .int 0, .ref bs, .ref df, .ref ch, .ref pg, .int 0])), (pg, .inr (3, [.int 400, .int 0, .int 0, .int 0, .int 0, .int 0]))] := hD
        refine lv_aload_n (pc := 54) hx hb dV_person_54 rfl (lv_at hl 1 rfl) ?_
        refine lv_iconst (pc := 55) (v := 1) hx hb dV_person_55 (by decide) ?_
        have hPc := hP.sub (ws' := [(x, .inr (0, [.ref rt, .ref dr, .int 0, .int 0, .ref bs, .ref df, .ref ch, .ref pg, .int 0])), (pg, .inr (3, [.int 400, .int 0, .int 0, .int 0, .int 0, .int 0]))]) [1, 2] rfl
        have hDc := hD.sub (ws' := [(x, .inr (0, [.ref rt, .ref dr, .int 0, .int 0, .ref bs, .ref df, .ref ch, .ref pg, .int 0])), (pg, .inr (3, [.int 400, .int 0, .int 0, .int 0, .int 0, .int 0]))]) [1, 2] (by decide) rfl
        have hKc := hK.sub (tys' := []) [] rfl
        have hFc := va_free (wc := [(x, .inr (0, [.ref rt, .ref dr, .int 0, .int 0, .ref bs, .ref df, .ref ch, .ref pg, .int 0])), (pg, .inr (3, [.int 400, .int 0, .int 0, .int 0, .int 0, .int 0]))]) hD hS hA [1, 2] rfl
        refine va_callv (pc := 56) (va_runV (As := [.int 1]) (rest := []) ⟨hx, hb, hml, hown, hts⟩ (v_finish l dC dI H.size x rt dr bs df ch pg 0) (cwV 1 hts (gV wd_112 wd_113 wd_114 wd_35 wd_111) rfl rfl rfl (by decide +kernel) ⟨Nat.le_of_ble_eq_true rfl, Nat.le_of_ble_eq_true rfl⟩) ⟨pW_blind, va_recv (q := (RV, TV, 9)) (q0 := 1) (ci := 0) hK hP rfl rfl, pW_pre hPc hKc hDc⟩ rfl rfl hl.1 rfl (lv_room (Nat.le_of_ble_eq_true rfl)) dV_person_56 ⟨Nat.le_of_ble_eq_true rfl, Nat.le_of_ble_eq_true rfl⟩) hS (fun q _ h => hFc q h) hFc (fun u t H1 locs ht hvm hr25 hB hz1 hk1 hS => ?_)
        obtain ⟨hP1, hK1, hD1⟩ := hB
        rw [ht] at hP1
        have hK1 := va_K.moved hvm.symm hK1
        obtain ⟨hP, hD⟩ := va_join (wr := [(rt, .inl (cR, 16, .inl (upd (fun _ => 0) (pp : Int32).toNatClampNeg ri)))]) (w1 := []) hP hD [1, 2] [0] rfl rfl (by decide) (by decide) hk1 hFc hP1 hD1
        generalize H1 = H at hP hS ⊢
        have hP : va_P (dC, dI) kCl [(rt, .inl (cR, 16, .inl (upd (fun _ => 0) (pp : Int32).toNatClampNeg ri)))] H := hP
        have hD : va_D A [(rt, .inl (cR, 16, .inl (upd (fun _ => 0) (pp : Int32).toNatClampNeg ri)))] := hD
        refine W.widen (k := 0) (n := 0) (Nat.le_of_ble_eq_true rfl) (Nat.le_of_ble_eq_true rfl) ?_
        refine lv_iconst (pc := 59) (v := 1) hx hb dV_person_59 (by decide) ?_
        have hP9 := hP.sub (ws' := []) [] rfl
        have hD9 := hD.sub (ws' := []) [] (by decide) rfl
        have hK9 := hK.sub (tys' := []) [] rfl
        exact W.zret (pc := 60) hx hb hr rfl (fun t ht hW => ⟨⟨_, (), rfl, (Or.inl ⟨rfl, h5.1, h5.2, h7, h13⟩), by rw [ht]; exact hP9, va_K.moved hW.alike hK9, hD9⟩, hS.F ht⟩) hS.2.2 dV_person_60
  · refine lv_if_eq (pc := 8) (tgt := 25) hx hb dV_person_8 rfl (fun h27 => ?_) (fun h27 => absurd h27 (by decide))
    refine lv_iconst (pc := 25) (v := 0) hx hb dV_person_25 (by decide) ?_
    refine lv_istore_n (pc := 26) hx hb dV_person_26 rfl hl (by decide) rfl (fun ls hl => ?_)
    have hl : lv_has ls 4 [(3, .int 0), (0, .ref x), (1, .int pp), (2, .int ri)] := hl
    refine lv_aload_n (pc := 27) hx hb dV_person_27 rfl (lv_at hl 1 rfl) ?_
    refine lv_iload_n (pc := 28) hx hb dV_person_28 rfl (lv_at hl 0 rfl) ?_
    refine lv_if_eq (pc := 29) (tgt := 36) hx hb dV_person_29 rfl (fun h28 => ?_) (fun h28 => absurd h28 (by decide))
    refine lv_bipush (pc := 36) (v := 7) hx hb dV_person_36 (by decide) ?_
    refine lv_iconst (pc := 38) (v := 1) hx hb dV_person_38 (by decide) ?_
    have hPc := hP.sub (ws' := [(x, .inr (0, [.ref rt, .ref dr, .int 0, .int 0, .ref bs, .ref df, .ref ch, .ref pg, .int rs]))]) [0] rfl
    have hDc := hD.sub (ws' := [(x, .inr (0, [.ref rt, .ref dr, .int 0, .int 0, .ref bs, .ref df, .ref ch, .ref pg, .int rs]))]) [0] (by decide) rfl
    have hKc := hK.sub (tys' := []) [] rfl
    have hFc := va_free (wc := [(x, .inr (0, [.ref rt, .ref dr, .int 0, .int 0, .ref bs, .ref df, .ref ch, .ref pg, .int rs]))]) hD hS hA [0] rfl
    refine va_calli (pc := 39) (va_runV (As := [.int 7, .int 1]) (rest := []) ⟨hx, hb, hml, hown, hts⟩ (v_mayWrite l dC dI H.size x rt dr bs df ch pg rs 7 1 (by decide)) (cwV 2 hts (gV wd_66 wd_67 wd_68 wd_35 wd_65) rfl rfl rfl (by decide +kernel) ⟨Nat.le_of_ble_eq_true rfl, Nat.le_of_ble_eq_true rfl⟩) ⟨pW_blind, va_recv (q := (RV, TV, 9)) (q0 := 0) (ci := 0) hK hP rfl rfl, pW_pre hPc hKc hDc⟩ rfl rfl hl.1 rfl (lv_room (Nat.le_of_ble_eq_true rfl)) dV_person_39 ⟨Nat.le_of_ble_eq_true rfl, Nat.le_of_ble_eq_true rfl⟩) hS (fun q _ h => hFc q h) hFc (fun r29 u t H1 locs ht hvm hr30 hB hz1 hk1 hS => ?_)
    obtain ⟨hP1, hK1, hD1⟩ := hB
    rw [ht] at hP1
    have hK1 := va_K.moved hvm.symm hK1
    obtain ⟨hP, hD⟩ := va_join (wr := [(rt, .inl (cR, 16, .inl (fun _ => 0))), (pg, .inr (3, [.int 400, .int 0, .int 0, .int 0, .int 0, .int 0]))]) (w1 := [(x, .inr (0, [.ref rt, .ref dr, .int 0, .int 0, .ref bs, .ref df, .ref ch, .ref pg, .int 7]))]) hP hD [0] [1, 2] rfl rfl (by decide) (by decide) hk1 hFc hP1 hD1
    generalize H1 = H at hP hS ⊢
    have hP : va_P (dC, dI) kCl [(rt, .inl (cR, 16, .inl (fun _ => 0))), (pg, .inr (3, [.int 400, .int 0, .int 0, .int 0, .int 0, .int 0])), (x, .inr (0, [.ref rt, .ref dr, .int 0, .int 0, .ref bs, .ref df, .ref ch, .ref pg, .int 7]))] H := hP
    have hD : va_D A [(rt, .inl (cR, 16, .inl (fun _ => 0))), (pg, .inr (3, [.int 400, .int 0, .int 0, .int 0, .int 0, .int 0])), (x, .inr (0, [.ref rt, .ref dr, .int 0, .int 0, .ref bs, .ref df, .ref ch, .ref pg, .int 7]))] := hD
    refine W.widen (k := 0) (n := 0) (Nat.le_of_ble_eq_true rfl) (Nat.le_of_ble_eq_true rfl) ?_
    obtain rfl : r29 = 0 := hr30
    refine lv_if_ne (pc := 42) (tgt := 47) hx hb dV_person_42 rfl (fun h32 => absurd h32 (by decide)) (fun h32 => ?_)
    refine lv_iconst (pc := 45) (v := 0) hx hb dV_person_45 (by decide) ?_
    have hP9 := hP.sub (ws' := []) [] rfl
    have hD9 := hD.sub (ws' := []) [] (by decide) rfl
    have hK9 := hK.sub (tys' := []) [] rfl
    exact W.zret (pc := 46) hx hb hr rfl (fun t ht hW => ⟨⟨_, (), rfl, (Or.inr ⟨rfl, h5.elim Or.inl (fun q => Or.inr (Or.inl q))⟩), by rw [ht]; exact hP9, va_K.moved hW.alike hK9, hD9⟩, hS.F ht⟩) hS.2.2 dV_person_46
set_option maxHeartbeats 4000000 in
set_option maxRecDepth 100000 in
theorem p_failAhead (l : Launch) (dC : Nat → ClassId) (dI : Nat → Nat → Nat) (sz : Nat) (pg : Nat) (nn : Int32) : Met l yP_failAhead (.code yP_failAhead cP_failAhead 2 none :: aw) ({ frames := 0, cells := 0, slots := 0, locals := 0 }) (pW (dC, dI) sz [(pg, .inr (3, [.int 400, .int 0, .int 0, .int 0, .int 0, .int 0]))] [] [.ref pg, .int nn]) (va_Qv (fun (_ : Unit) => True) (fun _ t => wW (dC, dI) (va_A [(pg, .inr (3, [.int 400, .int 0, .int 0, .int 0, .int 0, .int 0]))] sz) [(pg, .inr (3, [.int 400, .int 0, .int 0, .int 0, .int 1, .int nn]))] [] t) (va_A [(pg, .inr (3, [.int 400, .int 0, .int 0, .int 0, .int 0, .int 0]))] sz)) 0 0 (va_A [(pg, .inr (3, [.int 400, .int 0, .int 0, .int 0, .int 0, .int 0]))] sz) := by
  refine Met.ofW (cc := cP_failAhead) (maxL := 2) (ret := none) (by decide) rfl ?_
  intro p e s m args below meth c s₁ B hml hv
  obtain ⟨rfl, hv⟩ := hv
  have hx := B.exec
  have hb := B.bytes
  have hr := B.returns
  have hts : ∀ w ∈ aw, w.before _ s = true := fun w h => atoms_spec (ws := (.code yP_failAhead cP_failAhead 2 none :: aw)) B.pre w (List.mem_cons_of_mem _ h)
  have hown : s.vm.findClass RP = some m.cls := findClass_of_methodNamed B.named
  have hlocks := B.notSynchronized
  obtain ⟨hsz, hP, hK, hD0⟩ := hv
  subst hsz
  have hD := hD0.self (sz := s.heap.size)
  generalize hAe : va_A [(pg, .inr (3, [.int 400, .int 0, .int 0, .int 0, .int 0, .int 0]))] s.heap.size = A at hD ⊢
  have hA : ∀ q : Nat, s.heap.size ≤ q → A q := fun q h => by rw [← hAe]; exact Or.inr h
  obtain ⟨H, hH⟩ : ∃ H, H = s.heap := ⟨_, rfl⟩
  have hS : va_S A s.heap H [] := by rw [hH]; exact va_S.rf
  rw [← hH] at hP ⊢
  have hP : va_P (dC, dI) kCl [(pg, .inr (3, [.int 400, .int 0, .int 0, .int 0, .int 0, .int 0]))] H := hP
  have hl := lv_entry ([.ref pg, .int nn]) (n := 2) (Nat.le_of_ble_eq_true rfl)
  rw [lg_entry_eq]
  generalize (lg_sl ([.ref pg, .int nn]) ++ List.replicate (2 - (lg_sl ([.ref pg, .int nn])).length) Slot.unset).toArray = ls at hl ⊢
  have hl : lv_has ls 2 [(0, .ref pg), (1, .int nn)] := hl
  refine lv_aload_n (pc := 0) hx hb dP_failAhead_0 rfl (lv_at hl 0 rfl) ?_
  refine lv_iconst (pc := 1) (v := 1) hx hb dP_failAhead_1 (by decide) ?_
  refine va_put (D := (dC, dI)) (cl := kCl) (ci := 3) (v := .int 1) (ty := .boolean) (C := RP) (T := TP) (N := 6) (pc := 2) hx hb hts inP tyP tyP_ok nmP hown hK hP hD hS 0 rfl rfl 4 (by decide) (hts _ wd_54) (fun _ h9 => h9) rfl (by decide +kernel) rfl rfl (Nat.le_of_ble_eq_true rfl) dP_failAhead_2 (fun H locs hP hD hS => ?_)
  have hP : va_P (dC, dI) kCl [(pg, .inr (3, [.int 400, .int 0, .int 0, .int 0, .int 1, .int 0]))] H := hP
  have hD : va_D A [(pg, .inr (3, [.int 400, .int 0, .int 0, .int 0, .int 1, .int 0]))] := hD
  refine lv_aload_n (pc := 5) hx hb dP_failAhead_5 rfl (lv_at hl 0 rfl) ?_
  refine lv_iload_n (pc := 6) hx hb dP_failAhead_6 rfl (lv_at hl 1 rfl) ?_
  refine va_put (D := (dC, dI)) (cl := kCl) (ci := 3) (v := .int nn) (ty := .int) (C := RP) (T := TP) (N := 6) (pc := 7) hx hb hts inP tyP tyP_ok nmP hown hK hP hD hS 0 rfl rfl 5 (by decide) (hts _ wd_115) (fun _ h9 => h9) rfl (by decide +kernel) rfl rfl (Nat.le_of_ble_eq_true rfl) dP_failAhead_7 (fun H locs hP hD hS => ?_)
  have hP : va_P (dC, dI) kCl [(pg, .inr (3, [.int 400, .int 0, .int 0, .int 0, .int 1, .int nn]))] H := hP
  have hD : va_D A [(pg, .inr (3, [.int 400, .int 0, .int 0, .int 0, .int 1, .int nn]))] := hD
  have hP9 := hP.sub (ws' := [(pg, .inr (3, [.int 400, .int 0, .int 0, .int 0, .int 1, .int nn]))]) [0] rfl
  have hD9 := hD.sub (ws' := [(pg, .inr (3, [.int 400, .int 0, .int 0, .int 0, .int 1, .int nn]))]) [0] (by decide) rfl
  have hK9 := hK.sub (tys' := []) [] rfl
  exact W.vret (pc := 10) hx hb hr (fun t ht hW => ⟨⟨(), rfl, trivial, by rw [ht]; exact hP9, va_K.moved hW.alike hK9, hD9⟩, hS.F ht⟩) hS.2.2 dP_failAhead_10
set_option maxHeartbeats 4000000 in
set_option maxRecDepth 100000 in
theorem v_failAfter (l : Launch) (dC : Nat → ClassId) (dI : Nat → Nat → Nat) (sz : Nat) (x : Nat) (rt : Nat) (dr : Nat) (bs : Nat) (df : Nat) (ch : Nat) (pg : Nat) (rs : Int32) (nn : Int32) : Met l yV_failAfter (.code yV_failAfter cV_failAfter 2 (some .boolean) :: aw) ({ frames := 1, cells := 0, slots := 0, locals := 21 }) (pW (dC, dI) sz [(x, .inr (0, [.ref rt, .ref dr, .int 0, .int 0, .ref bs, .ref df, .ref ch, .ref pg, .int rs])), (pg, .inr (3, [.int 400, .int 0, .int 0, .int 0, .int 0, .int 0]))] [] [.ref x, .int nn]) (va_Qi (fun r (_ : Unit) => (r = 1 ∧ (¬ nn < 0)) ∨ (r = 0 ∧ (nn < 0))) (fun _ t => wW (dC, dI) (va_A [(x, .inr (0, [.ref rt, .ref dr, .int 0, .int 0, .ref bs, .ref df, .ref ch, .ref pg, .int rs])), (pg, .inr (3, [.int 400, .int 0, .int 0, .int 0, .int 0, .int 0]))] sz) [] [] t) (va_A [(x, .inr (0, [.ref rt, .ref dr, .int 0, .int 0, .ref bs, .ref df, .ref ch, .ref pg, .int rs])), (pg, .inr (3, [.int 400, .int 0, .int 0, .int 0, .int 0, .int 0]))] sz)) 0 0 (va_A [(x, .inr (0, [.ref rt, .ref dr, .int 0, .int 0, .ref bs, .ref df, .ref ch, .ref pg, .int rs])), (pg, .inr (3, [.int 400, .int 0, .int 0, .int 0, .int 0, .int 0]))] sz) := by
  refine Met.ofW (cc := cV_failAfter) (maxL := 2) (ret := (some .boolean)) (by decide) rfl ?_
  intro p e s m args below meth c s₁ B hml hv
  obtain ⟨rfl, hv⟩ := hv
  have hx := B.exec
  have hb := B.bytes
  have hr := B.returns
  have hts : ∀ w ∈ aw, w.before _ s = true := fun w h => atoms_spec (ws := (.code yV_failAfter cV_failAfter 2 (some .boolean) :: aw)) B.pre w (List.mem_cons_of_mem _ h)
  have hown : s.vm.findClass RV = some m.cls := findClass_of_methodNamed B.named
  have hlocks := B.notSynchronized
  obtain ⟨hsz, hP, hK, hD0⟩ := hv
  subst hsz
  have hD := hD0.self (sz := s.heap.size)
  generalize hAe : va_A [(x, .inr (0, [.ref rt, .ref dr, .int 0, .int 0, .ref bs, .ref df, .ref ch, .ref pg, .int rs])), (pg, .inr (3, [.int 400, .int 0, .int 0, .int 0, .int 0, .int 0]))] s.heap.size = A at hD ⊢
  have hA : ∀ q : Nat, s.heap.size ≤ q → A q := fun q h => by rw [← hAe]; exact Or.inr h
  obtain ⟨H, hH⟩ : ∃ H, H = s.heap := ⟨_, rfl⟩
  have hS : va_S A s.heap H [] := by rw [hH]; exact va_S.rf
  rw [← hH] at hP ⊢
  have hP : va_P (dC, dI) kCl [(x, .inr (0, [.ref rt, .ref dr, .int 0, .int 0, .ref bs, .ref df, .ref ch, .ref pg, .int rs])), (pg, .inr (3, [.int 400, .int 0, .int 0, .int 0, .int 0, .int 0]))] H := hP
  have hl := lv_entry ([.ref x, .int nn]) (n := 2) (Nat.le_of_ble_eq_true rfl)
  rw [lg_entry_eq]
  generalize (lg_sl ([.ref x, .int nn]) ++ List.replicate (2 - (lg_sl ([.ref x, .int nn])).length) Slot.unset).toArray = ls at hl ⊢
  have hl : lv_has ls 2 [(0, .ref x), (1, .int nn)] := hl
  refine lv_iload_n (pc := 0) hx hb dV_failAfter_0 rfl (lv_at hl 1 rfl) ?_
  refine lv_if_lt (pc := 1) (tgt := 14) hx hb dV_failAfter_1 rfl (fun h1 => ?_) (fun h1 => ?_)
  · refine lv_iconst (pc := 14) (v := 0) hx hb dV_failAfter_14 (by decide) ?_
    have hP9 := hP.sub (ws' := []) [] rfl
    have hD9 := hD.sub (ws' := []) [] (by decide) rfl
    have hK9 := hK.sub (tys' := []) [] rfl
    exact W.zret (pc := 15) hx hb hr rfl (fun t ht hW => ⟨⟨_, (), rfl, (Or.inr ⟨rfl, by first | assumption | exact ⟨by assumption, by assumption⟩ | exact Or.inl (by assumption) | exact Or.inr (by assumption) | exact Or.inr (Or.inl (by assumption)) | exact Or.inr (Or.inr (by assumption)) | simp_all⟩), by rw [ht]; exact hP9, va_K.moved hW.alike hK9, hD9⟩, hS.F ht⟩) hS.2.2 dV_failAfter_15
  · refine lv_aload_n (pc := 4) hx hb dV_failAfter_4 rfl (lv_at hl 0 rfl) ?_
    refine va_get (D := (dC, dI)) (cl := kCl) (C := RV) (T := TV) (N := 9) (pc := 5) hx hb hts inV hown hK hP 0 rfl rfl 7 (by decide) (hts _ wd_37) (fun _ h9 => h9) rfl dV_failAfter_5 ?_
    refine va_get (D := (dC, dI)) (cl := kCl) (C := RP) (T := TP) (N := 6) (pc := 8) hx hb hts inP hown hK hP 1 rfl rfl 3 (by decide) (hts _ wd_38) (fun _ h9 => h9) rfl dV_failAfter_8 ?_
    refine lv_if_eq (pc := 11) (tgt := 16) hx hb dV_failAfter_11 rfl (fun h2 => ?_) (fun h2 => absurd h2 (by decide))
    refine lv_aload_n (pc := 16) hx hb dV_failAfter_16 rfl (lv_at hl 0 rfl) ?_
    refine va_get (D := (dC, dI)) (cl := kCl) (C := RV) (T := TV) (N := 9) (pc := 17) hx hb hts inV hown hK hP 0 rfl rfl 7 (by decide) (hts _ wd_37) (fun _ h9 => h9) rfl dV_failAfter_17 ?_
    refine lv_iload_n (pc := 20) hx hb dV_failAfter_20 rfl (lv_at hl 1 rfl) ?_
    have hPc := hP.sub (ws' := [(pg, .inr (3, [.int 400, .int 0, .int 0, .int 0, .int 0, .int 0]))]) [1] rfl
    have hDc := hD.sub (ws' := [(pg, .inr (3, [.int 400, .int 0, .int 0, .int 0, .int 0, .int 0]))]) [1] (by decide) rfl
    have hKc := hK.sub (tys' := []) [] rfl
    have hFc := va_free (wc := [(pg, .inr (3, [.int 400, .int 0, .int 0, .int 0, .int 0, .int 0]))]) hD hS hA [1] rfl
    refine va_callv (pc := 21) (va_runV (As := [.int nn]) (rest := []) ⟨hx, hb, hml, hown, hts⟩ (p_failAhead l dC dI H.size pg nn) (cwV 1 hts (gV wd_117 wd_118 wd_119 wd_60 wd_116) rfl rfl rfl (by decide +kernel) ⟨Nat.le_of_ble_eq_true rfl, Nat.le_of_ble_eq_true rfl⟩) ⟨pW_blind, va_recv (q := (RP, TP, 6)) (q0 := 1) (ci := 3) hK hP rfl rfl, pW_pre hPc hKc hDc⟩ rfl rfl hl.1 rfl (lv_room (Nat.le_of_ble_eq_true rfl)) dV_failAfter_21 ⟨Nat.le_of_ble_eq_true rfl, Nat.le_of_ble_eq_true rfl⟩) hS (fun q _ h => hFc q h) hFc (fun u t H1 locs ht hvm hr4 hB hz1 hk1 hS => ?_)
    obtain ⟨hP1, hK1, hD1⟩ := hB
    rw [ht] at hP1
    have hK1 := va_K.moved hvm.symm hK1
    obtain ⟨hP, hD⟩ := va_join (wr := [(x, .inr (0, [.ref rt, .ref dr, .int 0, .int 0, .ref bs, .ref df, .ref ch, .ref pg, .int rs]))]) (w1 := [(pg, .inr (3, [.int 400, .int 0, .int 0, .int 0, .int 1, .int nn]))]) hP hD [1] [0] rfl rfl (by decide) (by decide) hk1 hFc hP1 hD1
    generalize H1 = H at hP hS ⊢
    have hP : va_P (dC, dI) kCl [(x, .inr (0, [.ref rt, .ref dr, .int 0, .int 0, .ref bs, .ref df, .ref ch, .ref pg, .int rs])), (pg, .inr (3, [.int 400, .int 0, .int 0, .int 0, .int 1, .int nn]))] H := hP
    have hD : va_D A [(x, .inr (0, [.ref rt, .ref dr, .int 0, .int 0, .ref bs, .ref df, .ref ch, .ref pg, .int rs])), (pg, .inr (3, [.int 400, .int 0, .int 0, .int 0, .int 1, .int nn]))] := hD
    refine W.widen (k := 0) (n := 0) (Nat.le_of_ble_eq_true rfl) (Nat.le_of_ble_eq_true rfl) ?_
    refine lv_iconst (pc := 24) (v := 1) hx hb dV_failAfter_24 (by decide) ?_
    have hP9 := hP.sub (ws' := []) [] rfl
    have hD9 := hD.sub (ws' := []) [] (by decide) rfl
    have hK9 := hK.sub (tys' := []) [] rfl
    exact W.zret (pc := 25) hx hb hr rfl (fun t ht hW => ⟨⟨_, (), rfl, (Or.inl ⟨rfl, by first | assumption | exact ⟨by assumption, by assumption⟩ | exact Or.inl (by assumption) | exact Or.inr (by assumption) | exact Or.inr (Or.inl (by assumption)) | exact Or.inr (Or.inr (by assumption)) | simp_all⟩), by rw [ht]; exact hP9, va_K.moved hW.alike hK9, hD9⟩, hS.F ht⟩) hS.2.2 dV_failAfter_25
set_option maxHeartbeats 4000000 in
set_option maxRecDepth 100000 in
theorem p_switchOn (l : Launch) (dC : Nat → ClassId) (dI : Nat → Nat → Nat) (sz : Nat) (pg : Nat) : Met l yP_switchOn (.code yP_switchOn cP_switchOn 1 none :: aw) ({ frames := 0, cells := 0, slots := 0, locals := 0 }) (pW (dC, dI) sz [(pg, .inr (3, [.int 400, .int 0, .int 0, .int 0, .int 0, .int 0]))] [] [.ref pg]) (va_Qv (fun (_ : Unit) => True) (fun _ t => wW (dC, dI) (va_A [(pg, .inr (3, [.int 400, .int 0, .int 0, .int 0, .int 0, .int 0]))] sz) [(pg, .inr (3, [.int 400, .int 0, .int 0, .int 0, .int 0, .int 0]))] [] t) (va_A [(pg, .inr (3, [.int 400, .int 0, .int 0, .int 0, .int 0, .int 0]))] sz)) 0 0 (va_A [(pg, .inr (3, [.int 400, .int 0, .int 0, .int 0, .int 0, .int 0]))] sz) := by
  refine Met.ofW (cc := cP_switchOn) (maxL := 1) (ret := none) (by decide) rfl ?_
  intro p e s m args below meth c s₁ B hml hv
  obtain ⟨rfl, hv⟩ := hv
  have hx := B.exec
  have hb := B.bytes
  have hr := B.returns
  have hts : ∀ w ∈ aw, w.before _ s = true := fun w h => atoms_spec (ws := (.code yP_switchOn cP_switchOn 1 none :: aw)) B.pre w (List.mem_cons_of_mem _ h)
  have hown : s.vm.findClass RP = some m.cls := findClass_of_methodNamed B.named
  have hlocks := B.notSynchronized
  obtain ⟨hsz, hP, hK, hD0⟩ := hv
  subst hsz
  have hD := hD0.self (sz := s.heap.size)
  generalize hAe : va_A [(pg, .inr (3, [.int 400, .int 0, .int 0, .int 0, .int 0, .int 0]))] s.heap.size = A at hD ⊢
  have hA : ∀ q : Nat, s.heap.size ≤ q → A q := fun q h => by rw [← hAe]; exact Or.inr h
  obtain ⟨H, hH⟩ : ∃ H, H = s.heap := ⟨_, rfl⟩
  have hS : va_S A s.heap H [] := by rw [hH]; exact va_S.rf
  rw [← hH] at hP ⊢
  have hP : va_P (dC, dI) kCl [(pg, .inr (3, [.int 400, .int 0, .int 0, .int 0, .int 0, .int 0]))] H := hP
  have hl := lv_entry ([.ref pg]) (n := 1) (Nat.le_of_ble_eq_true rfl)
  rw [lg_entry_eq]
  generalize (lg_sl ([.ref pg]) ++ List.replicate (1 - (lg_sl ([.ref pg])).length) Slot.unset).toArray = ls at hl ⊢
  have hl : lv_has ls 1 [(0, .ref pg)] := hl
  refine lv_aload_n (pc := 0) hx hb dP_switchOn_0 rfl (lv_at hl 0 rfl) ?_
  refine lv_iconst (pc := 1) (v := 0) hx hb dP_switchOn_1 (by decide) ?_
  refine va_put (D := (dC, dI)) (cl := kCl) (ci := 3) (v := .int 0) (ty := .boolean) (C := RP) (T := TP) (N := 6) (pc := 2) hx hb hts inP tyP tyP_ok nmP hown hK hP hD hS 0 rfl rfl 3 (by decide) (hts _ wd_120) (fun _ h9 => h9) rfl (by decide +kernel) rfl rfl (Nat.le_of_ble_eq_true rfl) dP_switchOn_2 (fun H locs hP hD hS => ?_)
  have hP : va_P (dC, dI) kCl [(pg, .inr (3, [.int 400, .int 0, .int 0, .int 0, .int 0, .int 0]))] H := hP
  have hD : va_D A [(pg, .inr (3, [.int 400, .int 0, .int 0, .int 0, .int 0, .int 0]))] := hD
  refine lv_aload_n (pc := 5) hx hb dP_switchOn_5 rfl (lv_at hl 0 rfl) ?_
  refine lv_iconst (pc := 6) (v := 0) hx hb dP_switchOn_6 (by decide) ?_
  refine va_put (D := (dC, dI)) (cl := kCl) (ci := 3) (v := .int 0) (ty := .boolean) (C := RP) (T := TP) (N := 6) (pc := 7) hx hb hts inP tyP tyP_ok nmP hown hK hP hD hS 0 rfl rfl 4 (by decide) (hts _ wd_54) (fun _ h9 => h9) rfl (by decide +kernel) rfl rfl (Nat.le_of_ble_eq_true rfl) dP_switchOn_7 (fun H locs hP hD hS => ?_)
  have hP : va_P (dC, dI) kCl [(pg, .inr (3, [.int 400, .int 0, .int 0, .int 0, .int 0, .int 0]))] H := hP
  have hD : va_D A [(pg, .inr (3, [.int 400, .int 0, .int 0, .int 0, .int 0, .int 0]))] := hD
  have hP9 := hP.sub (ws' := [(pg, .inr (3, [.int 400, .int 0, .int 0, .int 0, .int 0, .int 0]))]) [0] rfl
  have hD9 := hD.sub (ws' := [(pg, .inr (3, [.int 400, .int 0, .int 0, .int 0, .int 0, .int 0]))]) [0] (by decide) rfl
  have hK9 := hK.sub (tys' := []) [] rfl
  exact W.vret (pc := 10) hx hb hr (fun t ht hW => ⟨⟨(), rfl, trivial, by rw [ht]; exact hP9, va_K.moved hW.alike hK9, hD9⟩, hS.F ht⟩) hS.2.2 dP_switchOn_10
set_option maxHeartbeats 4000000 in
set_option maxRecDepth 100000 in
theorem v_drawingsOut (l : Launch) (dC : Nat → ClassId) (dI : Nat → Nat → Nat) (x : Nat) (rt : Nat) (dr : Nat) (bs : Nat) (df : Nat) (ch : Nat) (pg : Nat) (rs : Int32) : Met l yV_drawingsOut (.code yV_drawingsOut cV_drawingsOut 3 (some .int) :: aw) ({ frames := 0, cells := 0, slots := 0, locals := 0 }) (pR (dC, dI) [(x, .inr (0, [.ref rt, .ref dr, .int 0, .int 0, .ref bs, .ref df, .ref ch, .ref pg, .int rs]))] [] [.ref x]) (vp_Si (fun r => r = 0)) 0 0 (fun _ => False) := by
  refine Met.ofW (cc := cV_drawingsOut) (maxL := 3) (ret := (some .int)) (by decide) rfl ?_
  intro p e s m args below meth c s₁ B hml hv
  obtain ⟨rfl, hv⟩ := hv
  have hx := B.exec
  have hb := B.bytes
  have hr := B.returns
  have hts : ∀ w ∈ aw, w.before _ s = true := fun w h => atoms_spec (ws := (.code yV_drawingsOut cV_drawingsOut 3 (some .int) :: aw)) B.pre w (List.mem_cons_of_mem _ h)
  have hown : s.vm.findClass RV = some m.cls := findClass_of_methodNamed B.named
  have hlocks := B.notSynchronized
  obtain ⟨hP, hK⟩ := hv
  obtain ⟨H, hH⟩ : ∃ H, H = s.heap := ⟨_, rfl⟩
  rw [← hH] at hP ⊢
  have hl := lv_entry ([.ref x]) (n := 3) (Nat.le_of_ble_eq_true rfl)
  rw [lg_entry_eq]
  generalize (lg_sl ([.ref x]) ++ List.replicate (3 - (lg_sl ([.ref x])).length) Slot.unset).toArray = ls at hl ⊢
  have hl : lv_has ls 3 [(0, .ref x)] := hl
  refine lv_iconst (pc := 0) (v := 0) hx hb dV_drawingsOut_0 (by decide) ?_
  refine lv_istore_n (pc := 1) hx hb dV_drawingsOut_1 rfl hl (by decide) rfl (fun ls hl => ?_)
  have hl : lv_has ls 3 [(1, .int 0), (0, .ref x)] := hl
  refine lv_iconst (pc := 2) (v := 0) hx hb dV_drawingsOut_2 (by decide) ?_
  refine lv_istore_n (pc := 3) hx hb dV_drawingsOut_3 rfl hl (by decide) rfl (fun ls hl => ?_)
  have hl : lv_has ls 3 [(2, .int 0), (1, .int 0), (0, .ref x)] := hl
  refine lv_iload_n (pc := 4) hx hb dV_drawingsOut_4 rfl (lv_at hl 0 rfl) ?_
  refine lv_aload_n (pc := 5) hx hb dV_drawingsOut_5 rfl (lv_at hl 2 rfl) ?_
  refine va_get (D := (dC, dI)) (cl := kCl) (C := RV) (T := TV) (N := 9) (pc := 6) hx hb hts inV hown hK hP 0 rfl rfl 2 (by decide) (hts _ wd_39) (fun _ h9 => h9) rfl dV_drawingsOut_6 ?_
  refine lv_icmp_ge (pc := 9) (tgt := 34) hx hb dV_drawingsOut_9 rfl (fun h1 => ?_) (fun h1 => absurd h1 (by decide))
  refine lv_iload_n (pc := 34) hx hb dV_drawingsOut_34 rfl (lv_at hl 1 rfl) ?_
  exact W.iret (pc := 35) hx hb hr (fun t ht hW => ⟨_, rfl, rfl, ht.trans hH⟩) (fun q h => nomatch h) dV_drawingsOut_35
set_option maxHeartbeats 4000000 in
set_option maxRecDepth 100000 in
theorem v_start (l : Launch) (dC : Nat → ClassId) (dI : Nat → Nat → Nat) (sz : Nat) (x : Nat) (rt : Nat) (dr : Nat) (bs : Nat) (df : Nat) (ch : Nat) (pg : Nat) (rs : Int32) : Met l yV_start (.code yV_start cV_start 2 (some .int) :: aw) ({ frames := 1, cells := 0, slots := 0, locals := 22 }) (pW (dC, dI) sz [(x, .inr (0, [.ref rt, .ref dr, .int 0, .int 0, .ref bs, .ref df, .ref ch, .ref pg, .int rs])), (pg, .inr (3, [.int 400, .int 0, .int 0, .int 0, .int 0, .int 0]))] [] [.ref x]) (va_Qi (fun r (_ : Unit) => r = 0) (fun _ t => wW (dC, dI) (va_A [(x, .inr (0, [.ref rt, .ref dr, .int 0, .int 0, .ref bs, .ref df, .ref ch, .ref pg, .int rs])), (pg, .inr (3, [.int 400, .int 0, .int 0, .int 0, .int 0, .int 0]))] sz) [] [] t) (va_A [(x, .inr (0, [.ref rt, .ref dr, .int 0, .int 0, .ref bs, .ref df, .ref ch, .ref pg, .int rs])), (pg, .inr (3, [.int 400, .int 0, .int 0, .int 0, .int 0, .int 0]))] sz)) 0 0 (va_A [(x, .inr (0, [.ref rt, .ref dr, .int 0, .int 0, .ref bs, .ref df, .ref ch, .ref pg, .int rs])), (pg, .inr (3, [.int 400, .int 0, .int 0, .int 0, .int 0, .int 0]))] sz) := by
  refine Met.ofW (cc := cV_start) (maxL := 2) (ret := (some .int)) (by decide) rfl ?_
  intro p e s m args below meth c s₁ B hml hv
  obtain ⟨rfl, hv⟩ := hv
  have hx := B.exec
  have hb := B.bytes
  have hr := B.returns
  have hts : ∀ w ∈ aw, w.before _ s = true := fun w h => atoms_spec (ws := (.code yV_start cV_start 2 (some .int) :: aw)) B.pre w (List.mem_cons_of_mem _ h)
  have hown : s.vm.findClass RV = some m.cls := findClass_of_methodNamed B.named
  have hlocks := B.notSynchronized
  obtain ⟨hsz, hP, hK, hD0⟩ := hv
  subst hsz
  have hD := hD0.self (sz := s.heap.size)
  generalize hAe : va_A [(x, .inr (0, [.ref rt, .ref dr, .int 0, .int 0, .ref bs, .ref df, .ref ch, .ref pg, .int rs])), (pg, .inr (3, [.int 400, .int 0, .int 0, .int 0, .int 0, .int 0]))] s.heap.size = A at hD ⊢
  have hA : ∀ q : Nat, s.heap.size ≤ q → A q := fun q h => by rw [← hAe]; exact Or.inr h
  obtain ⟨H, hH⟩ : ∃ H, H = s.heap := ⟨_, rfl⟩
  have hS : va_S A s.heap H [] := by rw [hH]; exact va_S.rf
  rw [← hH] at hP ⊢
  have hP : va_P (dC, dI) kCl [(x, .inr (0, [.ref rt, .ref dr, .int 0, .int 0, .ref bs, .ref df, .ref ch, .ref pg, .int rs])), (pg, .inr (3, [.int 400, .int 0, .int 0, .int 0, .int 0, .int 0]))] H := hP
  have hl := lv_entry ([.ref x]) (n := 2) (Nat.le_of_ble_eq_true rfl)
  rw [lg_entry_eq]
  generalize (lg_sl ([.ref x]) ++ List.replicate (2 - (lg_sl ([.ref x])).length) Slot.unset).toArray = ls at hl ⊢
  have hl : lv_has ls 2 [(0, .ref x)] := hl
  refine lv_iconst (pc := 0) (v := 0) hx hb dV_start_0 (by decide) ?_
  refine lv_istore_n (pc := 1) hx hb dV_start_1 rfl hl (by decide) rfl (fun ls hl => ?_)
  have hl : lv_has ls 2 [(1, .int 0), (0, .ref x)] := hl
  refine lv_iload_n (pc := 2) hx hb dV_start_2 rfl (lv_at hl 0 rfl) ?_
  refine lv_aload_n (pc := 3) hx hb dV_start_3 rfl (lv_at hl 1 rfl) ?_
  refine va_get (D := (dC, dI)) (cl := kCl) (C := RV) (T := TV) (N := 9) (pc := 4) hx hb hts inV hown hK hP 0 rfl rfl 2 (by decide) (hts _ wd_39) (fun _ h9 => h9) rfl dV_start_4 ?_
  refine lv_icmp_ge (pc := 7) (tgt := 37) hx hb dV_start_7 rfl (fun h1 => ?_) (fun h1 => absurd h1 (by decide))
  refine lv_aload_n (pc := 37) hx hb dV_start_37 rfl (lv_at hl 1 rfl) ?_
  refine va_get (D := (dC, dI)) (cl := kCl) (C := RV) (T := TV) (N := 9) (pc := 38) hx hb hts inV hown hK hP 0 rfl rfl 7 (by decide) (hts _ wd_37) (fun _ h9 => h9) rfl dV_start_38 ?_
  have hPc := hP.sub (ws' := [(pg, .inr (3, [.int 400, .int 0, .int 0, .int 0, .int 0, .int 0]))]) [1] rfl
  have hDc := hD.sub (ws' := [(pg, .inr (3, [.int 400, .int 0, .int 0, .int 0, .int 0, .int 0]))]) [1] (by decide) rfl
  have hKc := hK.sub (tys' := []) [] rfl
  have hFc := va_free (wc := [(pg, .inr (3, [.int 400, .int 0, .int 0, .int 0, .int 0, .int 0]))]) hD hS hA [1] rfl
  refine va_callv (pc := 41) (va_runV (As := []) (rest := []) ⟨hx, hb, hml, hown, hts⟩ (p_switchOn l dC dI H.size pg) (cwV 0 hts (gV wd_122 wd_123 wd_124 wd_60 wd_121) rfl rfl rfl (by decide +kernel) ⟨Nat.le_of_ble_eq_true rfl, Nat.le_of_ble_eq_true rfl⟩) ⟨pW_blind, va_recv (q := (RP, TP, 6)) (q0 := 1) (ci := 3) hK hP rfl rfl, pW_pre hPc hKc hDc⟩ rfl rfl hl.1 rfl (lv_room (Nat.le_of_ble_eq_true rfl)) dV_start_41 ⟨Nat.le_of_ble_eq_true rfl, Nat.le_of_ble_eq_true rfl⟩) hS (fun q _ h => hFc q h) hFc (fun u t H1 locs ht hvm hr3 hB hz1 hk1 hS => ?_)
  obtain ⟨hP1, hK1, hD1⟩ := hB
  rw [ht] at hP1
  have hK1 := va_K.moved hvm.symm hK1
  obtain ⟨hP, hD⟩ := va_join (wr := [(x, .inr (0, [.ref rt, .ref dr, .int 0, .int 0, .ref bs, .ref df, .ref ch, .ref pg, .int rs]))]) (w1 := [(pg, .inr (3, [.int 400, .int 0, .int 0, .int 0, .int 0, .int 0]))]) hP hD [1] [0] rfl rfl (by decide) (by decide) hk1 hFc hP1 hD1
  generalize H1 = H at hP hS ⊢
  have hP : va_P (dC, dI) kCl [(x, .inr (0, [.ref rt, .ref dr, .int 0, .int 0, .ref bs, .ref df, .ref ch, .ref pg, .int rs])), (pg, .inr (3, [.int 400, .int 0, .int 0, .int 0, .int 0, .int 0]))] H := hP
  have hD : va_D A [(x, .inr (0, [.ref rt, .ref dr, .int 0, .int 0, .ref bs, .ref df, .ref ch, .ref pg, .int rs])), (pg, .inr (3, [.int 400, .int 0, .int 0, .int 0, .int 0, .int 0]))] := hD
  refine W.widen (k := 0) (n := 0) (Nat.le_of_ble_eq_true rfl) (Nat.le_of_ble_eq_true rfl) ?_
  refine lv_aload_n (pc := 44) hx hb dV_start_44 rfl (lv_at hl 1 rfl) ?_
  refine vp_callSi (pc := 45) (W.runV (As := []) (rest := []) ⟨hx, hb, hml, hown, hts⟩ (v_drawingsOut l dC dI x rt dr bs df ch pg rs) (cwV 0 hts (gV wd_126 wd_127 wd_128 wd_35 wd_125) rfl rfl rfl (by decide +kernel) ⟨Nat.le_of_ble_eq_true rfl, Nat.le_of_ble_eq_true rfl⟩) ⟨pR_blind, va_recv (q := (RV, TV, 9)) (q0 := 0) (ci := 0) hK hP rfl rfl, pR_pre (hP.sub (ws' := [(x, .inr (0, [.ref rt, .ref dr, .int 0, .int 0, .ref bs, .ref df, .ref ch, .ref pg, .int rs]))]) [0] rfl) (hK.sub (tys' := []) [] rfl)⟩ rfl rfl hl.1 rfl (lv_room (Nat.le_of_ble_eq_true rfl)) dV_start_45 ⟨Nat.le_of_ble_eq_true rfl, Nat.le_of_ble_eq_true rfl⟩) (fun r5 hr6 => ?_)
  obtain rfl : r5 = 0 := hr6
  have hP9 := hP.sub (ws' := []) [] rfl
  have hD9 := hD.sub (ws' := []) [] (by decide) rfl
  have hK9 := hK.sub (tys' := []) [] rfl
  exact W.iret (pc := 48) hx hb hr (fun t ht hW => ⟨⟨_, (), rfl, rfl, by rw [ht]; exact hP9, va_K.moved hW.alike hK9, hD9⟩, hS.F ht⟩) hS.2.2 dV_start_48
set_option maxHeartbeats 4000000 in
set_option maxRecDepth 100000 in
theorem v_user (l : Launch) (dC : Nat → ClassId) (dI : Nat → Nat → Nat) (x : Nat) (rt : Nat) (dr : Nat) (bs : Nat) (df : Nat) (ch : Nat) (pg : Nat) (rs : Int32) (dd : Int32) (al : Int32) (kk : Int32) : Met l yV_user (.code yV_user cV_user 7 (some .int) :: aw) ({ frames := 1, cells := 0, slots := 0, locals := 21 }) (pR (dC, dI) [(x, .inr (0, [.ref rt, .ref dr, .int 0, .int 0, .ref bs, .ref df, .ref ch, .ref pg, .int rs]))] [] [.ref x, .int dd, .int al, .int kk]) (vp_Si (fun r => r = (-1))) 0 0 (fun _ => False) := by
  refine Met.ofW (cc := cV_user) (maxL := 7) (ret := (some .int)) (by decide) rfl ?_
  intro p e s m args below meth c s₁ B hml hv
  obtain ⟨rfl, hv⟩ := hv
  have hx := B.exec
  have hb := B.bytes
  have hr := B.returns
  have hts : ∀ w ∈ aw, w.before _ s = true := fun w h => atoms_spec (ws := (.code yV_user cV_user 7 (some .int) :: aw)) B.pre w (List.mem_cons_of_mem _ h)
  have hown : s.vm.findClass RV = some m.cls := findClass_of_methodNamed B.named
  have hlocks := B.notSynchronized
  obtain ⟨hP, hK⟩ := hv
  obtain ⟨H, hH⟩ : ∃ H, H = s.heap := ⟨_, rfl⟩
  rw [← hH] at hP ⊢
  have hl := lv_entry ([.ref x, .int dd, .int al, .int kk]) (n := 7) (Nat.le_of_ble_eq_true rfl)
  rw [lg_entry_eq]
  generalize (lg_sl ([.ref x, .int dd, .int al, .int kk]) ++ List.replicate (7 - (lg_sl ([.ref x, .int dd, .int al, .int kk])).length) Slot.unset).toArray = ls at hl ⊢
  have hl : lv_has ls 7 [(0, .ref x), (1, .int dd), (2, .int al), (3, .int kk)] := hl
  refine lv_aload_n (pc := 0) hx hb dV_user_0 rfl (lv_at hl 0 rfl) ?_
  refine lv_iload_n (pc := 1) hx hb dV_user_1 rfl (lv_at hl 1 rfl) ?_
  refine va_csq (pc := 2) (W.runV (As := [.int dd]) (rest := []) ⟨hx, hb, hml, hown, hts⟩ (v_drawingAt l dC dI x rt dr bs df ch pg rs dd) (cwV 1 hts (gV wd_41 wd_42 wd_43 wd_35 wd_40) rfl rfl rfl (by decide +kernel) ⟨Nat.le_of_ble_eq_true rfl, Nat.le_of_ble_eq_true rfl⟩) ⟨pR_blind, va_recv (q := (RV, TV, 9)) (q0 := 0) (ci := 0) hK hP rfl rfl, pR_pre (hP.sub (ws' := [(x, .inr (0, [.ref rt, .ref dr, .int 0, .int 0, .ref bs, .ref df, .ref ch, .ref pg, .int rs]))]) [0] rfl) (hK.sub (tys' := []) [] rfl)⟩ rfl rfl hl.1 rfl (lv_room (Nat.le_of_ble_eq_true rfl)) dV_user_2 ⟨Nat.le_of_ble_eq_true rfl, Nat.le_of_ble_eq_true rfl⟩) (fun r1 hr2 => ?_)
  obtain rfl : r1 = none := hr2
  refine W.eq (g2 := F0 m 5 ls [.null]) rfl ?_
  refine lv_ifnonnullN (pc := 5) hx hb dV_user_5 ?_
  refine lv_iconst (pc := 8) (v := (-1)) hx hb dV_user_8 (by decide) ?_
  exact W.iret (pc := 9) hx hb hr (fun t ht hW => ⟨_, rfl, rfl, ht.trans hH⟩) (fun q h => nomatch h) dV_user_9
set_option maxHeartbeats 4000000 in
set_option maxRecDepth 100000 in
theorem k_clear (l : Launch) (dC : Nat → ClassId) (dI : Nat → Nat → Nat) (sz : Nat) (ch : Nat) (cp : Nat) (cn : Nat) : Met l yK_clear (.code yK_clear cK_clear 1 none :: aw) ({ frames := 0, cells := 0, slots := 0, locals := 0 }) (pW (dC, dI) sz [(ch, .inr (2, [.ref cp, .ref cn, .int 0]))] [] [.ref ch]) (va_Qv (fun (_ : Unit) => True) (fun _ t => wW (dC, dI) (va_A [(ch, .inr (2, [.ref cp, .ref cn, .int 0]))] sz) [(ch, .inr (2, [.ref cp, .ref cn, .int 0]))] [] t) (va_A [(ch, .inr (2, [.ref cp, .ref cn, .int 0]))] sz)) 0 0 (va_A [(ch, .inr (2, [.ref cp, .ref cn, .int 0]))] sz) := by
  refine Met.ofW (cc := cK_clear) (maxL := 1) (ret := none) (by decide) rfl ?_
  intro p e s m args below meth c s₁ B hml hv
  obtain ⟨rfl, hv⟩ := hv
  have hx := B.exec
  have hb := B.bytes
  have hr := B.returns
  have hts : ∀ w ∈ aw, w.before _ s = true := fun w h => atoms_spec (ws := (.code yK_clear cK_clear 1 none :: aw)) B.pre w (List.mem_cons_of_mem _ h)
  have hown : s.vm.findClass RK = some m.cls := findClass_of_methodNamed B.named
  have hlocks := B.notSynchronized
  obtain ⟨hsz, hP, hK, hD0⟩ := hv
  subst hsz
  have hD := hD0.self (sz := s.heap.size)
  generalize hAe : va_A [(ch, .inr (2, [.ref cp, .ref cn, .int 0]))] s.heap.size = A at hD ⊢
  have hA : ∀ q : Nat, s.heap.size ≤ q → A q := fun q h => by rw [← hAe]; exact Or.inr h
  obtain ⟨H, hH⟩ : ∃ H, H = s.heap := ⟨_, rfl⟩
  have hS : va_S A s.heap H [] := by rw [hH]; exact va_S.rf
  rw [← hH] at hP ⊢
  have hP : va_P (dC, dI) kCl [(ch, .inr (2, [.ref cp, .ref cn, .int 0]))] H := hP
  have hl := lv_entry ([.ref ch]) (n := 1) (Nat.le_of_ble_eq_true rfl)
  rw [lg_entry_eq]
  generalize (lg_sl ([.ref ch]) ++ List.replicate (1 - (lg_sl ([.ref ch])).length) Slot.unset).toArray = ls at hl ⊢
  have hl : lv_has ls 1 [(0, .ref ch)] := hl
  refine lv_aload_n (pc := 0) hx hb dK_clear_0 rfl (lv_at hl 0 rfl) ?_
  refine lv_iconst (pc := 1) (v := 0) hx hb dK_clear_1 (by decide) ?_
  refine va_put (D := (dC, dI)) (cl := kCl) (ci := 2) (v := .int 0) (ty := .int) (C := RK) (T := TK) (N := 3) (pc := 2) hx hb hts inK tyK tyK_ok nmK hown hK hP hD hS 0 rfl rfl 2 (by decide) (hts _ wd_129) (fun _ h9 => h9) rfl (by decide +kernel) rfl rfl (Nat.le_of_ble_eq_true rfl) dK_clear_2 (fun H locs hP hD hS => ?_)
  have hP : va_P (dC, dI) kCl [(ch, .inr (2, [.ref cp, .ref cn, .int 0]))] H := hP
  have hD : va_D A [(ch, .inr (2, [.ref cp, .ref cn, .int 0]))] := hD
  have hP9 := hP.sub (ws' := [(ch, .inr (2, [.ref cp, .ref cn, .int 0]))]) [0] rfl
  have hD9 := hD.sub (ws' := [(ch, .inr (2, [.ref cp, .ref cn, .int 0]))]) [0] (by decide) rfl
  have hK9 := hK.sub (tys' := []) [] rfl
  exact W.vret (pc := 5) hx hb hr (fun t ht hW => ⟨⟨(), rfl, trivial, by rw [ht]; exact hP9, va_K.moved hW.alike hK9, hD9⟩, hS.F ht⟩) hS.2.2 dK_clear_5
set_option maxHeartbeats 4000000 in
set_option maxRecDepth 100000 in
theorem v_chunksOfRevisions (l : Launch) (dC : Nat → ClassId) (dI : Nat → Nat → Nat) (sz : Nat) (x : Nat) (rt : Nat) (dr : Nat) (bs : Nat) (df : Nat) (ch : Nat) (pg : Nat) (rs : Int32) (cp : Nat) (cn : Nat) : Met l yV_chunksOfRevisions (.code yV_chunksOfRevisions cV_chunksOfRevisions 3 (some .int) :: aw) ({ frames := 1, cells := 0, slots := 0, locals := 20 }) (pW (dC, dI) sz [(x, .inr (0, [.ref rt, .ref dr, .int 0, .int 0, .ref bs, .ref df, .ref ch, .ref pg, .int rs])), (ch, .inr (2, [.ref cp, .ref cn, .int 0]))] [] [.ref x]) (va_Qi (fun r (_ : Unit) => r = 0) (fun _ t => wW (dC, dI) (va_A [(x, .inr (0, [.ref rt, .ref dr, .int 0, .int 0, .ref bs, .ref df, .ref ch, .ref pg, .int rs])), (ch, .inr (2, [.ref cp, .ref cn, .int 0]))] sz) [(x, .inr (0, [.ref rt, .ref dr, .int 0, .int 0, .ref bs, .ref df, .ref ch, .ref pg, .int rs])), (ch, .inr (2, [.ref cp, .ref cn, .int 0]))] [] t) (va_A [(x, .inr (0, [.ref rt, .ref dr, .int 0, .int 0, .ref bs, .ref df, .ref ch, .ref pg, .int rs])), (ch, .inr (2, [.ref cp, .ref cn, .int 0]))] sz)) 0 0 (va_A [(x, .inr (0, [.ref rt, .ref dr, .int 0, .int 0, .ref bs, .ref df, .ref ch, .ref pg, .int rs])), (ch, .inr (2, [.ref cp, .ref cn, .int 0]))] sz) := by
  refine Met.ofW (cc := cV_chunksOfRevisions) (maxL := 3) (ret := (some .int)) (by decide) rfl ?_
  intro p e s m args below meth c s₁ B hml hv
  obtain ⟨rfl, hv⟩ := hv
  have hx := B.exec
  have hb := B.bytes
  have hr := B.returns
  have hts : ∀ w ∈ aw, w.before _ s = true := fun w h => atoms_spec (ws := (.code yV_chunksOfRevisions cV_chunksOfRevisions 3 (some .int) :: aw)) B.pre w (List.mem_cons_of_mem _ h)
  have hown : s.vm.findClass RV = some m.cls := findClass_of_methodNamed B.named
  have hlocks := B.notSynchronized
  obtain ⟨hsz, hP, hK, hD0⟩ := hv
  subst hsz
  have hD := hD0.self (sz := s.heap.size)
  generalize hAe : va_A [(x, .inr (0, [.ref rt, .ref dr, .int 0, .int 0, .ref bs, .ref df, .ref ch, .ref pg, .int rs])), (ch, .inr (2, [.ref cp, .ref cn, .int 0]))] s.heap.size = A at hD ⊢
  have hA : ∀ q : Nat, s.heap.size ≤ q → A q := fun q h => by rw [← hAe]; exact Or.inr h
  obtain ⟨H, hH⟩ : ∃ H, H = s.heap := ⟨_, rfl⟩
  have hS : va_S A s.heap H [] := by rw [hH]; exact va_S.rf
  rw [← hH] at hP ⊢
  have hP : va_P (dC, dI) kCl [(x, .inr (0, [.ref rt, .ref dr, .int 0, .int 0, .ref bs, .ref df, .ref ch, .ref pg, .int rs])), (ch, .inr (2, [.ref cp, .ref cn, .int 0]))] H := hP
  have hl := lv_entry ([.ref x]) (n := 3) (Nat.le_of_ble_eq_true rfl)
  rw [lg_entry_eq]
  generalize (lg_sl ([.ref x]) ++ List.replicate (3 - (lg_sl ([.ref x])).length) Slot.unset).toArray = ls at hl ⊢
  have hl : lv_has ls 3 [(0, .ref x)] := hl
  refine lv_aload_n (pc := 0) hx hb dV_chunksOfRevisions_0 rfl (lv_at hl 0 rfl) ?_
  refine va_get (D := (dC, dI)) (cl := kCl) (C := RV) (T := TV) (N := 9) (pc := 1) hx hb hts inV hown hK hP 0 rfl rfl 6 (by decide) (hts _ wd_130) (fun _ h9 => h9) rfl dV_chunksOfRevisions_1 ?_
  have hPc := hP.sub (ws' := [(ch, .inr (2, [.ref cp, .ref cn, .int 0]))]) [1] rfl
  have hDc := hD.sub (ws' := [(ch, .inr (2, [.ref cp, .ref cn, .int 0]))]) [1] (by decide) rfl
  have hKc := hK.sub (tys' := []) [] rfl
  have hFc := va_free (wc := [(ch, .inr (2, [.ref cp, .ref cn, .int 0]))]) hD hS hA [1] rfl
  refine va_callv (pc := 4) (va_runV (As := []) (rest := []) ⟨hx, hb, hml, hown, hts⟩ (k_clear l dC dI H.size ch cp cn) (cwV 0 hts (gV wd_132 wd_133 wd_134 wd_135 wd_131) rfl rfl rfl (by decide +kernel) ⟨Nat.le_of_ble_eq_true rfl, Nat.le_of_ble_eq_true rfl⟩) ⟨pW_blind, va_recv (q := (RK, TK, 3)) (q0 := 1) (ci := 2) hK hP rfl rfl, pW_pre hPc hKc hDc⟩ rfl rfl hl.1 rfl (lv_room (Nat.le_of_ble_eq_true rfl)) dV_chunksOfRevisions_4 ⟨Nat.le_of_ble_eq_true rfl, Nat.le_of_ble_eq_true rfl⟩) hS (fun q _ h => hFc q h) hFc (fun u t H1 locs ht hvm hr2 hB hz1 hk1 hS => ?_)
  obtain ⟨hP1, hK1, hD1⟩ := hB
  rw [ht] at hP1
  have hK1 := va_K.moved hvm.symm hK1
  obtain ⟨hP, hD⟩ := va_join (wr := [(x, .inr (0, [.ref rt, .ref dr, .int 0, .int 0, .ref bs, .ref df, .ref ch, .ref pg, .int rs]))]) (w1 := [(ch, .inr (2, [.ref cp, .ref cn, .int 0]))]) hP hD [1] [0] rfl rfl (by decide) (by decide) hk1 hFc hP1 hD1
  generalize H1 = H at hP hS ⊢
  have hP : va_P (dC, dI) kCl [(x, .inr (0, [.ref rt, .ref dr, .int 0, .int 0, .ref bs, .ref df, .ref ch, .ref pg, .int rs])), (ch, .inr (2, [.ref cp, .ref cn, .int 0]))] H := hP
  have hD : va_D A [(x, .inr (0, [.ref rt, .ref dr, .int 0, .int 0, .ref bs, .ref df, .ref ch, .ref pg, .int rs])), (ch, .inr (2, [.ref cp, .ref cn, .int 0]))] := hD
  refine W.widen (k := 0) (n := 0) (Nat.le_of_ble_eq_true rfl) (Nat.le_of_ble_eq_true rfl) ?_
  refine lv_iconst (pc := 7) (v := 0) hx hb dV_chunksOfRevisions_7 (by decide) ?_
  refine lv_istore_n (pc := 8) hx hb dV_chunksOfRevisions_8 rfl hl (by decide) rfl (fun ls hl => ?_)
  have hl : lv_has ls 3 [(1, .int 0), (0, .ref x)] := hl
  refine lv_iload_n (pc := 9) hx hb dV_chunksOfRevisions_9 rfl (lv_at hl 0 rfl) ?_
  refine lv_aload_n (pc := 10) hx hb dV_chunksOfRevisions_10 rfl (lv_at hl 1 rfl) ?_
  refine va_get (D := (dC, dI)) (cl := kCl) (C := RV) (T := TV) (N := 9) (pc := 11) hx hb hts inV hown hK hP 0 rfl rfl 2 (by decide) (hts _ wd_39) (fun _ h9 => h9) rfl dV_chunksOfRevisions_11 ?_
  refine lv_icmp_ge (pc := 14) (tgt := 65) hx hb dV_chunksOfRevisions_14 rfl (fun h4 => ?_) (fun h4 => absurd h4 (by decide))
  refine lv_aload_n (pc := 65) hx hb dV_chunksOfRevisions_65 rfl (lv_at hl 1 rfl) ?_
  refine va_get (D := (dC, dI)) (cl := kCl) (C := RV) (T := TV) (N := 9) (pc := 66) hx hb hts inV hown hK hP 0 rfl rfl 6 (by decide) (hts _ wd_130) (fun _ h9 => h9) rfl dV_chunksOfRevisions_66 ?_
  refine va_get (D := (dC, dI)) (cl := kCl) (C := RK) (T := TK) (N := 3) (pc := 69) hx hb hts inK hown hK hP 1 rfl rfl 2 (by decide) (hts _ wd_136) (fun _ h9 => h9) rfl dV_chunksOfRevisions_69 ?_
  have hP9 := hP.sub (ws' := [(x, .inr (0, [.ref rt, .ref dr, .int 0, .int 0, .ref bs, .ref df, .ref ch, .ref pg, .int rs])), (ch, .inr (2, [.ref cp, .ref cn, .int 0]))]) [0, 1] rfl
  have hD9 := hD.sub (ws' := [(x, .inr (0, [.ref rt, .ref dr, .int 0, .int 0, .ref bs, .ref df, .ref ch, .ref pg, .int rs])), (ch, .inr (2, [.ref cp, .ref cn, .int 0]))]) [0, 1] (by decide) rfl
  have hK9 := hK.sub (tys' := []) [] rfl
  exact W.iret (pc := 72) hx hb hr (fun t ht hW => ⟨⟨_, (), rfl, rfl, by rw [ht]; exact hP9, va_K.moved hW.alike hK9, hD9⟩, hS.F ht⟩) hS.2.2 dV_chunksOfRevisions_72
set_option maxHeartbeats 4000000 in
set_option maxRecDepth 100000 in
theorem v_chunksKept (l : Launch) (dC : Nat → ClassId) (dI : Nat → Nat → Nat) (sz : Nat) (x : Nat) (rt : Nat) (dr : Nat) (bs : Nat) (df : Nat) (ch : Nat) (pg : Nat) (rs : Int32) (cp : Nat) (cn : Nat) : Met l yV_chunksKept (.code yV_chunksKept cV_chunksKept 2 (some .int) :: aw) ({ frames := 2, cells := 0, slots := 0, locals := 42 }) (pW (dC, dI) sz [(x, .inr (0, [.ref rt, .ref dr, .int 0, .int 0, .ref bs, .ref df, .ref ch, .ref pg, .int rs])), (ch, .inr (2, [.ref cp, .ref cn, .int 0]))] [] [.ref x]) (va_Qi (fun r (_ : Unit) => r = 0) (fun _ t => wW (dC, dI) (va_A [(x, .inr (0, [.ref rt, .ref dr, .int 0, .int 0, .ref bs, .ref df, .ref ch, .ref pg, .int rs])), (ch, .inr (2, [.ref cp, .ref cn, .int 0]))] sz) [(x, .inr (0, [.ref rt, .ref dr, .int 0, .int 0, .ref bs, .ref df, .ref ch, .ref pg, .int rs])), (ch, .inr (2, [.ref cp, .ref cn, .int 0]))] [] t) (va_A [(x, .inr (0, [.ref rt, .ref dr, .int 0, .int 0, .ref bs, .ref df, .ref ch, .ref pg, .int rs])), (ch, .inr (2, [.ref cp, .ref cn, .int 0]))] sz)) 0 0 (va_A [(x, .inr (0, [.ref rt, .ref dr, .int 0, .int 0, .ref bs, .ref df, .ref ch, .ref pg, .int rs])), (ch, .inr (2, [.ref cp, .ref cn, .int 0]))] sz) := by
  refine Met.ofW (cc := cV_chunksKept) (maxL := 2) (ret := (some .int)) (by decide) rfl ?_
  intro p e s m args below meth c s₁ B hml hv
  obtain ⟨rfl, hv⟩ := hv
  have hx := B.exec
  have hb := B.bytes
  have hr := B.returns
  have hts : ∀ w ∈ aw, w.before _ s = true := fun w h => atoms_spec (ws := (.code yV_chunksKept cV_chunksKept 2 (some .int) :: aw)) B.pre w (List.mem_cons_of_mem _ h)
  have hown : s.vm.findClass RV = some m.cls := findClass_of_methodNamed B.named
  have hlocks := B.notSynchronized
  obtain ⟨hsz, hP, hK, hD0⟩ := hv
  subst hsz
  have hD := hD0.self (sz := s.heap.size)
  generalize hAe : va_A [(x, .inr (0, [.ref rt, .ref dr, .int 0, .int 0, .ref bs, .ref df, .ref ch, .ref pg, .int rs])), (ch, .inr (2, [.ref cp, .ref cn, .int 0]))] s.heap.size = A at hD ⊢
  have hA : ∀ q : Nat, s.heap.size ≤ q → A q := fun q h => by rw [← hAe]; exact Or.inr h
  obtain ⟨H, hH⟩ : ∃ H, H = s.heap := ⟨_, rfl⟩
  have hS : va_S A s.heap H [] := by rw [hH]; exact va_S.rf
  rw [← hH] at hP ⊢
  have hP : va_P (dC, dI) kCl [(x, .inr (0, [.ref rt, .ref dr, .int 0, .int 0, .ref bs, .ref df, .ref ch, .ref pg, .int rs])), (ch, .inr (2, [.ref cp, .ref cn, .int 0]))] H := hP
  have hl := lv_entry ([.ref x]) (n := 2) (Nat.le_of_ble_eq_true rfl)
  rw [lg_entry_eq]
  generalize (lg_sl ([.ref x]) ++ List.replicate (2 - (lg_sl ([.ref x])).length) Slot.unset).toArray = ls at hl ⊢
  have hl : lv_has ls 2 [(0, .ref x)] := hl
  refine lv_aload_n (pc := 0) hx hb dV_chunksKept_0 rfl (lv_at hl 0 rfl) ?_
  have hPc := hP.sub (ws' := [(x, .inr (0, [.ref rt, .ref dr, .int 0, .int 0, .ref bs, .ref df, .ref ch, .ref pg, .int rs])), (ch, .inr (2, [.ref cp, .ref cn, .int 0]))]) [0, 1] rfl
  have hDc := hD.sub (ws' := [(x, .inr (0, [.ref rt, .ref dr, .int 0, .int 0, .ref bs, .ref df, .ref ch, .ref pg, .int rs])), (ch, .inr (2, [.ref cp, .ref cn, .int 0]))]) [0, 1] (by decide) rfl
  have hKc := hK.sub (tys' := []) [] rfl
  have hFc := va_free (wc := [(x, .inr (0, [.ref rt, .ref dr, .int 0, .int 0, .ref bs, .ref df, .ref ch, .ref pg, .int rs])), (ch, .inr (2, [.ref cp, .ref cn, .int 0]))]) hD hS hA [0, 1] rfl
  refine va_calli (pc := 1) (va_runV (As := []) (rest := []) ⟨hx, hb, hml, hown, hts⟩ (v_chunksOfRevisions l dC dI H.size x rt dr bs df ch pg rs cp cn) (cwV 0 hts (gV wd_138 wd_139 wd_140 wd_35 wd_137) rfl rfl rfl (by decide +kernel) ⟨Nat.le_of_ble_eq_true rfl, Nat.le_of_ble_eq_true rfl⟩) ⟨pW_blind, va_recv (q := (RV, TV, 9)) (q0 := 0) (ci := 0) hK hP rfl rfl, pW_pre hPc hKc hDc⟩ rfl rfl hl.1 rfl (lv_room (Nat.le_of_ble_eq_true rfl)) dV_chunksKept_1 ⟨Nat.le_of_ble_eq_true rfl, Nat.le_of_ble_eq_true rfl⟩) hS (fun q _ h => hFc q h) hFc (fun r1 u t H1 locs ht hvm hr2 hB hz1 hk1 hS => ?_)
  obtain ⟨hP1, hK1, hD1⟩ := hB
  rw [ht] at hP1
  have hK1 := va_K.moved hvm.symm hK1
  obtain ⟨hP, hD⟩ := va_join (wr := []) (w1 := [(x, .inr (0, [.ref rt, .ref dr, .int 0, .int 0, .ref bs, .ref df, .ref ch, .ref pg, .int rs])), (ch, .inr (2, [.ref cp, .ref cn, .int 0]))]) hP hD [0, 1] [] rfl rfl (by decide) (by decide) hk1 hFc hP1 hD1
  generalize H1 = H at hP hS ⊢
  have hP : va_P (dC, dI) kCl [(x, .inr (0, [.ref rt, .ref dr, .int 0, .int 0, .ref bs, .ref df, .ref ch, .ref pg, .int rs])), (ch, .inr (2, [.ref cp, .ref cn, .int 0]))] H := hP
  have hD : va_D A [(x, .inr (0, [.ref rt, .ref dr, .int 0, .int 0, .ref bs, .ref df, .ref ch, .ref pg, .int rs])), (ch, .inr (2, [.ref cp, .ref cn, .int 0]))] := hD
  refine W.widen (k := 0) (n := 0) (Nat.le_of_ble_eq_true rfl) (Nat.le_of_ble_eq_true rfl) ?_
  obtain rfl : r1 = 0 := hr2
  refine lv_pop (pc := 4) hx hb dV_chunksKept_4 rfl ?_
  refine lv_iconst (pc := 5) (v := 0) hx hb dV_chunksKept_5 (by decide) ?_
  refine lv_istore_n (pc := 6) hx hb dV_chunksKept_6 rfl hl (by decide) rfl (fun ls hl => ?_)
  have hl : lv_has ls 2 [(1, .int 0), (0, .ref x)] := hl
  refine lv_iload_n (pc := 7) hx hb dV_chunksKept_7 rfl (lv_at hl 0 rfl) ?_
  refine lv_aload_n (pc := 8) hx hb dV_chunksKept_8 rfl (lv_at hl 1 rfl) ?_
  refine va_get (D := (dC, dI)) (cl := kCl) (C := RV) (T := TV) (N := 9) (pc := 9) hx hb hts inV hown hK hP 0 rfl rfl 2 (by decide) (hts _ wd_39) (fun _ h9 => h9) rfl dV_chunksKept_9 ?_
  refine lv_icmp_ge (pc := 12) (tgt := 37) hx hb dV_chunksKept_12 rfl (fun h4 => ?_) (fun h4 => absurd h4 (by decide))
  refine lv_aload_n (pc := 37) hx hb dV_chunksKept_37 rfl (lv_at hl 1 rfl) ?_
  refine va_get (D := (dC, dI)) (cl := kCl) (C := RV) (T := TV) (N := 9) (pc := 38) hx hb hts inV hown hK hP 0 rfl rfl 6 (by decide) (hts _ wd_130) (fun _ h9 => h9) rfl dV_chunksKept_38 ?_
  refine va_get (D := (dC, dI)) (cl := kCl) (C := RK) (T := TK) (N := 3) (pc := 41) hx hb hts inK hown hK hP 1 rfl rfl 2 (by decide) (hts _ wd_136) (fun _ h9 => h9) rfl dV_chunksKept_41 ?_
  have hP9 := hP.sub (ws' := [(x, .inr (0, [.ref rt, .ref dr, .int 0, .int 0, .ref bs, .ref df, .ref ch, .ref pg, .int rs])), (ch, .inr (2, [.ref cp, .ref cn, .int 0]))]) [0, 1] rfl
  have hD9 := hD.sub (ws' := [(x, .inr (0, [.ref rt, .ref dr, .int 0, .int 0, .ref bs, .ref df, .ref ch, .ref pg, .int rs])), (ch, .inr (2, [.ref cp, .ref cn, .int 0]))]) [0, 1] (by decide) rfl
  have hK9 := hK.sub (tys' := []) [] rfl
  exact W.iret (pc := 44) hx hb hr (fun t ht hW => ⟨⟨_, (), rfl, rfl, by rw [ht]; exact hP9, va_K.moved hW.alike hK9, hD9⟩, hS.F ht⟩) hS.2.2 dV_chunksKept_44
set_option maxHeartbeats 4000000 in
set_option maxRecDepth 100000 in
theorem v_baselinesMade (l : Launch) (dC : Nat → ClassId) (dI : Nat → Nat → Nat) (x : Nat) (rt : Nat) (dr : Nat) (bs : Nat) (df : Nat) (ch : Nat) (pg : Nat) (rs : Int32) (cB : ClassId) : Met l yV_baselinesMade (.code yV_baselinesMade cV_baselinesMade 3 (some .int) :: aw) ({ frames := 0, cells := 0, slots := 0, locals := 0 }) (pR (dC, dI) [(x, .inr (0, [.ref rt, .ref dr, .int 0, .int 0, .ref bs, .ref df, .ref ch, .ref pg, .int rs])), (bs, .inl (cB, 10, .inr (.inr (.inr (.inr (fun _ => none))))))] [(cB, .object "DrawingVault$Baseline")] [.ref x]) (vp_Si (fun r => r = 0)) 0 0 (fun _ => False) := by
  refine Met.ofW (cc := cV_baselinesMade) (maxL := 3) (ret := (some .int)) (by decide) rfl ?_
  intro p e s m args below meth c s₁ B hml hv
  obtain ⟨rfl, hv⟩ := hv
  have hx := B.exec
  have hb := B.bytes
  have hr := B.returns
  have hts : ∀ w ∈ aw, w.before _ s = true := fun w h => atoms_spec (ws := (.code yV_baselinesMade cV_baselinesMade 3 (some .int) :: aw)) B.pre w (List.mem_cons_of_mem _ h)
  have hown : s.vm.findClass RV = some m.cls := findClass_of_methodNamed B.named
  have hlocks := B.notSynchronized
  obtain ⟨hP, hK⟩ := hv
  obtain ⟨H, hH⟩ : ∃ H, H = s.heap := ⟨_, rfl⟩
  rw [← hH] at hP ⊢
  have hl := lv_entry ([.ref x]) (n := 3) (Nat.le_of_ble_eq_true rfl)
  rw [lg_entry_eq]
  generalize (lg_sl ([.ref x]) ++ List.replicate (3 - (lg_sl ([.ref x])).length) Slot.unset).toArray = ls at hl ⊢
  have hl : lv_has ls 3 [(0, .ref x)] := hl
  refine lv_iconst (pc := 0) (v := 0) hx hb dV_baselinesMade_0 (by decide) ?_
  refine lv_istore_n (pc := 1) hx hb dV_baselinesMade_1 rfl hl (by decide) rfl (fun ls hl => ?_)
  have hl : lv_has ls 3 [(1, .int 0), (0, .ref x)] := hl
  refine lv_iconst (pc := 2) (v := 0) hx hb dV_baselinesMade_2 (by decide) ?_
  refine lv_istore_n (pc := 3) hx hb dV_baselinesMade_3 rfl hl (by decide) rfl (fun ls hl => ?_)
  have hl : lv_has ls 3 [(2, .int 0), (1, .int 0), (0, .ref x)] := hl
  refine lv_iload_n (pc := 4) hx hb dV_baselinesMade_4 rfl (lv_at hl 0 rfl) ?_
  refine lv_bipush (pc := 5) (v := 10) hx hb dV_baselinesMade_5 (by decide) ?_
  refine lv_icmp_ge (pc := 7) (tgt := 28) hx hb dV_baselinesMade_7 rfl (fun h1 => absurd h1 (by decide)) (fun h1 => ?_)
  refine lv_aload_n (pc := 10) hx hb dV_baselinesMade_10 rfl (lv_at hl 2 rfl) ?_
  refine va_get (D := (dC, dI)) (cl := kCl) (C := RV) (T := TV) (N := 9) (pc := 11) hx hb hts inV hown hK hP 0 rfl rfl 4 (by decide) (hts _ wd_44) (fun _ h9 => h9) rfl dV_baselinesMade_11 ?_
  refine lv_iload_n (pc := 14) hx hb dV_baselinesMade_14 rfl (lv_at hl 0 rfl) ?_
  refine va_aldq (D := (dC, dI)) (cl := kCl) (pc := 15) hx hb hK hP 1 0 rfl rfl (vp_in_lit 0 10 (by decide)) dV_baselinesMade_15 ?_
  refine W.eq (g2 := F0 m 16 ls [.null]) rfl ?_
  refine lv_ifnullN (pc := 16) (tgt := 22) hx hb dV_baselinesMade_16 rfl ?_
  refine lv_iinc (pc := 22) (v := 1) hx hb dV_baselinesMade_22 hl (k := 0) rfl (by decide) (by decide) rfl (fun ls hl => ?_)
  have hl : lv_has ls 3 [(2, .int 1), (1, .int 0), (0, .ref x)] := hl
  refine lv_goto (pc := 25) (tgt := 4) hx hb dV_baselinesMade_25 rfl ?_
  refine lv_iload_n (pc := 4) hx hb dV_baselinesMade_4 rfl (lv_at hl 0 rfl) ?_
  refine lv_bipush (pc := 5) (v := 10) hx hb dV_baselinesMade_5 (by decide) ?_
  refine lv_icmp_ge (pc := 7) (tgt := 28) hx hb dV_baselinesMade_7 rfl (fun h2 => absurd h2 (by decide)) (fun h2 => ?_)
  refine lv_aload_n (pc := 10) hx hb dV_baselinesMade_10 rfl (lv_at hl 2 rfl) ?_
  refine va_get (D := (dC, dI)) (cl := kCl) (C := RV) (T := TV) (N := 9) (pc := 11) hx hb hts inV hown hK hP 0 rfl rfl 4 (by decide) (hts _ wd_44) (fun _ h9 => h9) rfl dV_baselinesMade_11 ?_
  refine lv_iload_n (pc := 14) hx hb dV_baselinesMade_14 rfl (lv_at hl 0 rfl) ?_
  refine va_aldq (D := (dC, dI)) (cl := kCl) (pc := 15) hx hb hK hP 1 0 rfl rfl (vp_in_lit 1 10 (by decide)) dV_baselinesMade_15 ?_
  refine W.eq (g2 := F0 m 16 ls [.null]) rfl ?_
  refine lv_ifnullN (pc := 16) (tgt := 22) hx hb dV_baselinesMade_16 rfl ?_
  refine lv_iinc (pc := 22) (v := 2) hx hb dV_baselinesMade_22 hl (k := 0) rfl (by decide) (by decide) rfl (fun ls hl => ?_)
  have hl : lv_has ls 3 [(2, .int 2), (1, .int 0), (0, .ref x)] := hl
  refine lv_goto (pc := 25) (tgt := 4) hx hb dV_baselinesMade_25 rfl ?_
  refine lv_iload_n (pc := 4) hx hb dV_baselinesMade_4 rfl (lv_at hl 0 rfl) ?_
  refine lv_bipush (pc := 5) (v := 10) hx hb dV_baselinesMade_5 (by decide) ?_
  refine lv_icmp_ge (pc := 7) (tgt := 28) hx hb dV_baselinesMade_7 rfl (fun h3 => absurd h3 (by decide)) (fun h3 => ?_)
  refine lv_aload_n (pc := 10) hx hb dV_baselinesMade_10 rfl (lv_at hl 2 rfl) ?_
  refine va_get (D := (dC, dI)) (cl := kCl) (C := RV) (T := TV) (N := 9) (pc := 11) hx hb hts inV hown hK hP 0 rfl rfl 4 (by decide) (hts _ wd_44) (fun _ h9 => h9) rfl dV_baselinesMade_11 ?_
  refine lv_iload_n (pc := 14) hx hb dV_baselinesMade_14 rfl (lv_at hl 0 rfl) ?_
  refine va_aldq (D := (dC, dI)) (cl := kCl) (pc := 15) hx hb hK hP 1 0 rfl rfl (vp_in_lit 2 10 (by decide)) dV_baselinesMade_15 ?_
  refine W.eq (g2 := F0 m 16 ls [.null]) rfl ?_
  refine lv_ifnullN (pc := 16) (tgt := 22) hx hb dV_baselinesMade_16 rfl ?_
  refine lv_iinc (pc := 22) (v := 3) hx hb dV_baselinesMade_22 hl (k := 0) rfl (by decide) (by decide) rfl (fun ls hl => ?_)
  have hl : lv_has ls 3 [(2, .int 3), (1, .int 0), (0, .ref x)] := hl
  refine lv_goto (pc := 25) (tgt := 4) hx hb dV_baselinesMade_25 rfl ?_
  refine lv_iload_n (pc := 4) hx hb dV_baselinesMade_4 rfl (lv_at hl 0 rfl) ?_
  refine lv_bipush (pc := 5) (v := 10) hx hb dV_baselinesMade_5 (by decide) ?_
  refine lv_icmp_ge (pc := 7) (tgt := 28) hx hb dV_baselinesMade_7 rfl (fun h4 => absurd h4 (by decide)) (fun h4 => ?_)
  refine lv_aload_n (pc := 10) hx hb dV_baselinesMade_10 rfl (lv_at hl 2 rfl) ?_
  refine va_get (D := (dC, dI)) (cl := kCl) (C := RV) (T := TV) (N := 9) (pc := 11) hx hb hts inV hown hK hP 0 rfl rfl 4 (by decide) (hts _ wd_44) (fun _ h9 => h9) rfl dV_baselinesMade_11 ?_
  refine lv_iload_n (pc := 14) hx hb dV_baselinesMade_14 rfl (lv_at hl 0 rfl) ?_
  refine va_aldq (D := (dC, dI)) (cl := kCl) (pc := 15) hx hb hK hP 1 0 rfl rfl (vp_in_lit 3 10 (by decide)) dV_baselinesMade_15 ?_
  refine W.eq (g2 := F0 m 16 ls [.null]) rfl ?_
  refine lv_ifnullN (pc := 16) (tgt := 22) hx hb dV_baselinesMade_16 rfl ?_
  refine lv_iinc (pc := 22) (v := 4) hx hb dV_baselinesMade_22 hl (k := 0) rfl (by decide) (by decide) rfl (fun ls hl => ?_)
  have hl : lv_has ls 3 [(2, .int 4), (1, .int 0), (0, .ref x)] := hl
  refine lv_goto (pc := 25) (tgt := 4) hx hb dV_baselinesMade_25 rfl ?_
  refine lv_iload_n (pc := 4) hx hb dV_baselinesMade_4 rfl (lv_at hl 0 rfl) ?_
  refine lv_bipush (pc := 5) (v := 10) hx hb dV_baselinesMade_5 (by decide) ?_
  refine lv_icmp_ge (pc := 7) (tgt := 28) hx hb dV_baselinesMade_7 rfl (fun h5 => absurd h5 (by decide)) (fun h5 => ?_)
  refine lv_aload_n (pc := 10) hx hb dV_baselinesMade_10 rfl (lv_at hl 2 rfl) ?_
  refine va_get (D := (dC, dI)) (cl := kCl) (C := RV) (T := TV) (N := 9) (pc := 11) hx hb hts inV hown hK hP 0 rfl rfl 4 (by decide) (hts _ wd_44) (fun _ h9 => h9) rfl dV_baselinesMade_11 ?_
  refine lv_iload_n (pc := 14) hx hb dV_baselinesMade_14 rfl (lv_at hl 0 rfl) ?_
  refine va_aldq (D := (dC, dI)) (cl := kCl) (pc := 15) hx hb hK hP 1 0 rfl rfl (vp_in_lit 4 10 (by decide)) dV_baselinesMade_15 ?_
  refine W.eq (g2 := F0 m 16 ls [.null]) rfl ?_
  refine lv_ifnullN (pc := 16) (tgt := 22) hx hb dV_baselinesMade_16 rfl ?_
  refine lv_iinc (pc := 22) (v := 5) hx hb dV_baselinesMade_22 hl (k := 0) rfl (by decide) (by decide) rfl (fun ls hl => ?_)
  have hl : lv_has ls 3 [(2, .int 5), (1, .int 0), (0, .ref x)] := hl
  refine lv_goto (pc := 25) (tgt := 4) hx hb dV_baselinesMade_25 rfl ?_
  refine lv_iload_n (pc := 4) hx hb dV_baselinesMade_4 rfl (lv_at hl 0 rfl) ?_
  refine lv_bipush (pc := 5) (v := 10) hx hb dV_baselinesMade_5 (by decide) ?_
  refine lv_icmp_ge (pc := 7) (tgt := 28) hx hb dV_baselinesMade_7 rfl (fun h6 => absurd h6 (by decide)) (fun h6 => ?_)
  refine lv_aload_n (pc := 10) hx hb dV_baselinesMade_10 rfl (lv_at hl 2 rfl) ?_
  refine va_get (D := (dC, dI)) (cl := kCl) (C := RV) (T := TV) (N := 9) (pc := 11) hx hb hts inV hown hK hP 0 rfl rfl 4 (by decide) (hts _ wd_44) (fun _ h9 => h9) rfl dV_baselinesMade_11 ?_
  refine lv_iload_n (pc := 14) hx hb dV_baselinesMade_14 rfl (lv_at hl 0 rfl) ?_
  refine va_aldq (D := (dC, dI)) (cl := kCl) (pc := 15) hx hb hK hP 1 0 rfl rfl (vp_in_lit 5 10 (by decide)) dV_baselinesMade_15 ?_
  refine W.eq (g2 := F0 m 16 ls [.null]) rfl ?_
  refine lv_ifnullN (pc := 16) (tgt := 22) hx hb dV_baselinesMade_16 rfl ?_
  refine lv_iinc (pc := 22) (v := 6) hx hb dV_baselinesMade_22 hl (k := 0) rfl (by decide) (by decide) rfl (fun ls hl => ?_)
  have hl : lv_has ls 3 [(2, .int 6), (1, .int 0), (0, .ref x)] := hl
  refine lv_goto (pc := 25) (tgt := 4) hx hb dV_baselinesMade_25 rfl ?_
  refine lv_iload_n (pc := 4) hx hb dV_baselinesMade_4 rfl (lv_at hl 0 rfl) ?_
  refine lv_bipush (pc := 5) (v := 10) hx hb dV_baselinesMade_5 (by decide) ?_
  refine lv_icmp_ge (pc := 7) (tgt := 28) hx hb dV_baselinesMade_7 rfl (fun h7 => absurd h7 (by decide)) (fun h7 => ?_)
  refine lv_aload_n (pc := 10) hx hb dV_baselinesMade_10 rfl (lv_at hl 2 rfl) ?_
  refine va_get (D := (dC, dI)) (cl := kCl) (C := RV) (T := TV) (N := 9) (pc := 11) hx hb hts inV hown hK hP 0 rfl rfl 4 (by decide) (hts _ wd_44) (fun _ h9 => h9) rfl dV_baselinesMade_11 ?_
  refine lv_iload_n (pc := 14) hx hb dV_baselinesMade_14 rfl (lv_at hl 0 rfl) ?_
  refine va_aldq (D := (dC, dI)) (cl := kCl) (pc := 15) hx hb hK hP 1 0 rfl rfl (vp_in_lit 6 10 (by decide)) dV_baselinesMade_15 ?_
  refine W.eq (g2 := F0 m 16 ls [.null]) rfl ?_
  refine lv_ifnullN (pc := 16) (tgt := 22) hx hb dV_baselinesMade_16 rfl ?_
  refine lv_iinc (pc := 22) (v := 7) hx hb dV_baselinesMade_22 hl (k := 0) rfl (by decide) (by decide) rfl (fun ls hl => ?_)
  have hl : lv_has ls 3 [(2, .int 7), (1, .int 0), (0, .ref x)] := hl
  refine lv_goto (pc := 25) (tgt := 4) hx hb dV_baselinesMade_25 rfl ?_
  refine lv_iload_n (pc := 4) hx hb dV_baselinesMade_4 rfl (lv_at hl 0 rfl) ?_
  refine lv_bipush (pc := 5) (v := 10) hx hb dV_baselinesMade_5 (by decide) ?_
  refine lv_icmp_ge (pc := 7) (tgt := 28) hx hb dV_baselinesMade_7 rfl (fun h8 => absurd h8 (by decide)) (fun h8 => ?_)
  refine lv_aload_n (pc := 10) hx hb dV_baselinesMade_10 rfl (lv_at hl 2 rfl) ?_
  refine va_get (D := (dC, dI)) (cl := kCl) (C := RV) (T := TV) (N := 9) (pc := 11) hx hb hts inV hown hK hP 0 rfl rfl 4 (by decide) (hts _ wd_44) (fun _ h9 => h9) rfl dV_baselinesMade_11 ?_
  refine lv_iload_n (pc := 14) hx hb dV_baselinesMade_14 rfl (lv_at hl 0 rfl) ?_
  refine va_aldq (D := (dC, dI)) (cl := kCl) (pc := 15) hx hb hK hP 1 0 rfl rfl (vp_in_lit 7 10 (by decide)) dV_baselinesMade_15 ?_
  refine W.eq (g2 := F0 m 16 ls [.null]) rfl ?_
  refine lv_ifnullN (pc := 16) (tgt := 22) hx hb dV_baselinesMade_16 rfl ?_
  refine lv_iinc (pc := 22) (v := 8) hx hb dV_baselinesMade_22 hl (k := 0) rfl (by decide) (by decide) rfl (fun ls hl => ?_)
  have hl : lv_has ls 3 [(2, .int 8), (1, .int 0), (0, .ref x)] := hl
  refine lv_goto (pc := 25) (tgt := 4) hx hb dV_baselinesMade_25 rfl ?_
  refine lv_iload_n (pc := 4) hx hb dV_baselinesMade_4 rfl (lv_at hl 0 rfl) ?_
  refine lv_bipush (pc := 5) (v := 10) hx hb dV_baselinesMade_5 (by decide) ?_
  refine lv_icmp_ge (pc := 7) (tgt := 28) hx hb dV_baselinesMade_7 rfl (fun h9 => absurd h9 (by decide)) (fun h9 => ?_)
  refine lv_aload_n (pc := 10) hx hb dV_baselinesMade_10 rfl (lv_at hl 2 rfl) ?_
  refine va_get (D := (dC, dI)) (cl := kCl) (C := RV) (T := TV) (N := 9) (pc := 11) hx hb hts inV hown hK hP 0 rfl rfl 4 (by decide) (hts _ wd_44) (fun _ h9 => h9) rfl dV_baselinesMade_11 ?_
  refine lv_iload_n (pc := 14) hx hb dV_baselinesMade_14 rfl (lv_at hl 0 rfl) ?_
  refine va_aldq (D := (dC, dI)) (cl := kCl) (pc := 15) hx hb hK hP 1 0 rfl rfl (vp_in_lit 8 10 (by decide)) dV_baselinesMade_15 ?_
  refine W.eq (g2 := F0 m 16 ls [.null]) rfl ?_
  refine lv_ifnullN (pc := 16) (tgt := 22) hx hb dV_baselinesMade_16 rfl ?_
  refine lv_iinc (pc := 22) (v := 9) hx hb dV_baselinesMade_22 hl (k := 0) rfl (by decide) (by decide) rfl (fun ls hl => ?_)
  have hl : lv_has ls 3 [(2, .int 9), (1, .int 0), (0, .ref x)] := hl
  refine lv_goto (pc := 25) (tgt := 4) hx hb dV_baselinesMade_25 rfl ?_
  refine lv_iload_n (pc := 4) hx hb dV_baselinesMade_4 rfl (lv_at hl 0 rfl) ?_
  refine lv_bipush (pc := 5) (v := 10) hx hb dV_baselinesMade_5 (by decide) ?_
  refine lv_icmp_ge (pc := 7) (tgt := 28) hx hb dV_baselinesMade_7 rfl (fun h10 => absurd h10 (by decide)) (fun h10 => ?_)
  refine lv_aload_n (pc := 10) hx hb dV_baselinesMade_10 rfl (lv_at hl 2 rfl) ?_
  refine va_get (D := (dC, dI)) (cl := kCl) (C := RV) (T := TV) (N := 9) (pc := 11) hx hb hts inV hown hK hP 0 rfl rfl 4 (by decide) (hts _ wd_44) (fun _ h9 => h9) rfl dV_baselinesMade_11 ?_
  refine lv_iload_n (pc := 14) hx hb dV_baselinesMade_14 rfl (lv_at hl 0 rfl) ?_
  refine va_aldq (D := (dC, dI)) (cl := kCl) (pc := 15) hx hb hK hP 1 0 rfl rfl (vp_in_lit 9 10 (by decide)) dV_baselinesMade_15 ?_
  refine W.eq (g2 := F0 m 16 ls [.null]) rfl ?_
  refine lv_ifnullN (pc := 16) (tgt := 22) hx hb dV_baselinesMade_16 rfl ?_
  refine lv_iinc (pc := 22) (v := 10) hx hb dV_baselinesMade_22 hl (k := 0) rfl (by decide) (by decide) rfl (fun ls hl => ?_)
  have hl : lv_has ls 3 [(2, .int 10), (1, .int 0), (0, .ref x)] := hl
  refine lv_goto (pc := 25) (tgt := 4) hx hb dV_baselinesMade_25 rfl ?_
  refine lv_iload_n (pc := 4) hx hb dV_baselinesMade_4 rfl (lv_at hl 0 rfl) ?_
  refine lv_bipush (pc := 5) (v := 10) hx hb dV_baselinesMade_5 (by decide) ?_
  refine lv_icmp_ge (pc := 7) (tgt := 28) hx hb dV_baselinesMade_7 rfl (fun h11 => ?_) (fun h11 => absurd h11 (by decide))
  refine lv_iload_n (pc := 28) hx hb dV_baselinesMade_28 rfl (lv_at hl 1 rfl) ?_
  exact W.iret (pc := 29) hx hb hr (fun t ht hW => ⟨_, rfl, rfl, ht.trans hH⟩) (fun q h => nomatch h) dV_baselinesMade_29
set_option maxHeartbeats 4000000 in
set_option maxRecDepth 100000 in
theorem v_count (l : Launch) (dC : Nat → ClassId) (dI : Nat → Nat → Nat) (sz : Nat) (x : Nat) (rt : Nat) (dr : Nat) (bs : Nat) (df : Nat) (ch : Nat) (pg : Nat) (rs : Int32) (cB : ClassId) (cp : Nat) (cn : Nat) (ww : Int32) : Met l yV_count (.code yV_count cV_count 2 (some .int) :: aw) ({ frames := 3, cells := 0, slots := 0, locals := 63 }) (pW (dC, dI) sz [(x, .inr (0, [.ref rt, .ref dr, .int 0, .int 0, .ref bs, .ref df, .ref ch, .ref pg, .int rs])), (bs, .inl (cB, 10, .inr (.inr (.inr (.inr (fun _ => none)))))), (ch, .inr (2, [.ref cp, .ref cn, .int 0])), (pg, .inr (3, [.int 400, .int 0, .int 0, .int 0, .int 0, .int 0]))] [(cB, .object "DrawingVault$Baseline")] [.ref x, .int ww]) (va_Qi (fun r (_ : Unit) => r = (cnt0 ww)) (fun _ t => wW (dC, dI) (va_A [(x, .inr (0, [.ref rt, .ref dr, .int 0, .int 0, .ref bs, .ref df, .ref ch, .ref pg, .int rs])), (bs, .inl (cB, 10, .inr (.inr (.inr (.inr (fun _ => none)))))), (ch, .inr (2, [.ref cp, .ref cn, .int 0])), (pg, .inr (3, [.int 400, .int 0, .int 0, .int 0, .int 0, .int 0]))] sz) [] [] t) (va_A [(x, .inr (0, [.ref rt, .ref dr, .int 0, .int 0, .ref bs, .ref df, .ref ch, .ref pg, .int rs])), (bs, .inl (cB, 10, .inr (.inr (.inr (.inr (fun _ => none)))))), (ch, .inr (2, [.ref cp, .ref cn, .int 0])), (pg, .inr (3, [.int 400, .int 0, .int 0, .int 0, .int 0, .int 0]))] sz)) 0 0 (va_A [(x, .inr (0, [.ref rt, .ref dr, .int 0, .int 0, .ref bs, .ref df, .ref ch, .ref pg, .int rs])), (bs, .inl (cB, 10, .inr (.inr (.inr (.inr (fun _ => none)))))), (ch, .inr (2, [.ref cp, .ref cn, .int 0])), (pg, .inr (3, [.int 400, .int 0, .int 0, .int 0, .int 0, .int 0]))] sz) := by
  refine Met.ofW (cc := cV_count) (maxL := 2) (ret := (some .int)) (by decide) rfl ?_
  intro p e s m args below meth c s₁ B hml hv
  obtain ⟨rfl, hv⟩ := hv
  have hx := B.exec
  have hb := B.bytes
  have hr := B.returns
  have hts : ∀ w ∈ aw, w.before _ s = true := fun w h => atoms_spec (ws := (.code yV_count cV_count 2 (some .int) :: aw)) B.pre w (List.mem_cons_of_mem _ h)
  have hown : s.vm.findClass RV = some m.cls := findClass_of_methodNamed B.named
  have hlocks := B.notSynchronized
  obtain ⟨hsz, hP, hK, hD0⟩ := hv
  subst hsz
  have hD := hD0.self (sz := s.heap.size)
  generalize hAe : va_A [(x, .inr (0, [.ref rt, .ref dr, .int 0, .int 0, .ref bs, .ref df, .ref ch, .ref pg, .int rs])), (bs, .inl (cB, 10, .inr (.inr (.inr (.inr (fun _ => none)))))), (ch, .inr (2, [.ref cp, .ref cn, .int 0])), (pg, .inr (3, [.int 400, .int 0, .int 0, .int 0, .int 0, .int 0]))] s.heap.size = A at hD ⊢
  have hA : ∀ q : Nat, s.heap.size ≤ q → A q := fun q h => by rw [← hAe]; exact Or.inr h
  obtain ⟨H, hH⟩ : ∃ H, H = s.heap := ⟨_, rfl⟩
  have hS : va_S A s.heap H [] := by rw [hH]; exact va_S.rf
  rw [← hH] at hP ⊢
  have hP : va_P (dC, dI) kCl [(x, .inr (0, [.ref rt, .ref dr, .int 0, .int 0, .ref bs, .ref df, .ref ch, .ref pg, .int rs])), (bs, .inl (cB, 10, .inr (.inr (.inr (.inr (fun _ => none)))))), (ch, .inr (2, [.ref cp, .ref cn, .int 0])), (pg, .inr (3, [.int 400, .int 0, .int 0, .int 0, .int 0, .int 0]))] H := hP
  have hl := lv_entry ([.ref x, .int ww]) (n := 2) (Nat.le_of_ble_eq_true rfl)
  rw [lg_entry_eq]
  generalize (lg_sl ([.ref x, .int ww]) ++ List.replicate (2 - (lg_sl ([.ref x, .int ww])).length) Slot.unset).toArray = ls at hl ⊢
  have hl : lv_has ls 2 [(0, .ref x), (1, .int ww)] := hl
  refine lv_iload_n (pc := 0) hx hb dV_count_0 rfl (lv_at hl 1 rfl) ?_
  rcases pk_ix ww (n := 8) (by decide) with h1 | h1 | ⟨j2, hj3, rfl⟩
  · refine lv_tableOut (pc := 1) (tgt := 108) hx hb dV_count_1 (Or.inl (tsw_lo h1)) rfl ?_
    refine lv_iconst (pc := 108) (v := (-1)) hx hb dV_count_108 (by decide) ?_
    have hP9 := hP.sub (ws' := []) [] rfl
    have hD9 := hD.sub (ws' := []) [] (by decide) rfl
    have hK9 := hK.sub (tys' := []) [] rfl
    exact W.iret (pc := 109) hx hb hr (fun t ht hW => ⟨⟨_, (), rfl, cnt0_lo h1, by rw [ht]; exact hP9, va_K.moved hW.alike hK9, hD9⟩, hS.F ht⟩) hS.2.2 dV_count_109
  · refine lv_tableOut (pc := 1) (tgt := 108) hx hb dV_count_1 (Or.inr (tsw_hi (n := 7) (by decide) h1)) rfl ?_
    refine lv_iconst (pc := 108) (v := (-1)) hx hb dV_count_108 (by decide) ?_
    have hP9 := hP.sub (ws' := []) [] rfl
    have hD9 := hD.sub (ws' := []) [] (by decide) rfl
    have hK9 := hK.sub (tys' := []) [] rfl
    exact W.iret (pc := 109) hx hb hr (fun t ht hW => ⟨⟨_, (), rfl, cnt0_hi h1, by rw [ht]; exact hP9, va_K.moved hW.alike hK9, hD9⟩, hS.F ht⟩) hS.2.2 dV_count_109
  · rcases (show j2 = 0 ∨ j2 = 1 ∨ j2 = 2 ∨ j2 = 3 ∨ j2 = 4 ∨ j2 = 5 ∨ j2 = 6 ∨ j2 = 7 by omega) with rfl | rfl | rfl | rfl | rfl | rfl | rfl | rfl
    · refine lv_tableIn (pc := 1) (tgt := 48) (off := 47) hx hb dV_count_1 (by decide) (by decide) (by decide) rfl ?_
      refine lv_aload_n (pc := 48) hx hb dV_count_48 rfl (lv_at hl 0 rfl) ?_
      refine va_get (D := (dC, dI)) (cl := kCl) (C := RV) (T := TV) (N := 9) (pc := 49) hx hb hts inV hown hK hP 0 rfl rfl 2 (by decide) (hts _ wd_39) (fun _ h9 => h9) rfl dV_count_49 ?_
      have hP9 := hP.sub (ws' := []) [] rfl
      have hD9 := hD.sub (ws' := []) [] (by decide) rfl
      have hK9 := hK.sub (tys' := []) [] rfl
      exact W.iret (pc := 52) hx hb hr (fun t ht hW => ⟨⟨_, (), rfl, by decide, by rw [ht]; exact hP9, va_K.moved hW.alike hK9, hD9⟩, hS.F ht⟩) hS.2.2 dV_count_52
    · refine lv_tableIn (pc := 1) (tgt := 53) (off := 52) hx hb dV_count_1 (by decide) (by decide) (by decide) rfl ?_
      refine lv_aload_n (pc := 53) hx hb dV_count_53 rfl (lv_at hl 0 rfl) ?_
      refine va_get (D := (dC, dI)) (cl := kCl) (C := RV) (T := TV) (N := 9) (pc := 54) hx hb hts inV hown hK hP 0 rfl rfl 3 (by decide) (hts _ wd_141) (fun _ h9 => h9) rfl dV_count_54 ?_
      have hP9 := hP.sub (ws' := []) [] rfl
      have hD9 := hD.sub (ws' := []) [] (by decide) rfl
      have hK9 := hK.sub (tys' := []) [] rfl
      exact W.iret (pc := 57) hx hb hr (fun t ht hW => ⟨⟨_, (), rfl, by decide, by rw [ht]; exact hP9, va_K.moved hW.alike hK9, hD9⟩, hS.F ht⟩) hS.2.2 dV_count_57
    · refine lv_tableIn (pc := 1) (tgt := 58) (off := 57) hx hb dV_count_1 (by decide) (by decide) (by decide) rfl ?_
      refine lv_aload_n (pc := 58) hx hb dV_count_58 rfl (lv_at hl 0 rfl) ?_
      have hPc := hP.sub (ws' := [(x, .inr (0, [.ref rt, .ref dr, .int 0, .int 0, .ref bs, .ref df, .ref ch, .ref pg, .int rs])), (ch, .inr (2, [.ref cp, .ref cn, .int 0]))]) [0, 2] rfl
      have hDc := hD.sub (ws' := [(x, .inr (0, [.ref rt, .ref dr, .int 0, .int 0, .ref bs, .ref df, .ref ch, .ref pg, .int rs])), (ch, .inr (2, [.ref cp, .ref cn, .int 0]))]) [0, 2] (by decide) rfl
      have hKc := hK.sub (tys' := []) [] rfl
      have hFc := va_free (wc := [(x, .inr (0, [.ref rt, .ref dr, .int 0, .int 0, .ref bs, .ref df, .ref ch, .ref pg, .int rs])), (ch, .inr (2, [.ref cp, .ref cn, .int 0]))]) hD hS hA [0, 2] rfl
      refine va_calli (pc := 59) (va_runV (As := []) (rest := []) ⟨hx, hb, hml, hown, hts⟩ (v_chunksKept l dC dI H.size x rt dr bs df ch pg rs cp cn) (cwV 0 hts (gV wd_143 wd_144 wd_145 wd_35 wd_142) rfl rfl rfl (by decide +kernel) ⟨Nat.le_of_ble_eq_true rfl, Nat.le_of_ble_eq_true rfl⟩) ⟨pW_blind, va_recv (q := (RV, TV, 9)) (q0 := 0) (ci := 0) hK hP rfl rfl, pW_pre hPc hKc hDc⟩ rfl rfl hl.1 rfl (lv_room (Nat.le_of_ble_eq_true rfl)) dV_count_59 ⟨Nat.le_of_ble_eq_true rfl, Nat.le_of_ble_eq_true rfl⟩) hS (fun q _ h => hFc q h) hFc (fun r4 u t H1 locs ht hvm hr5 hB hz1 hk1 hS => ?_)
      obtain ⟨hP1, hK1, hD1⟩ := hB
      rw [ht] at hP1
      have hK1 := va_K.moved hvm.symm hK1
      obtain ⟨hP, hD⟩ := va_join (wr := [(bs, .inl (cB, 10, .inr (.inr (.inr (.inr (fun _ => none)))))), (pg, .inr (3, [.int 400, .int 0, .int 0, .int 0, .int 0, .int 0]))]) (w1 := [(x, .inr (0, [.ref rt, .ref dr, .int 0, .int 0, .ref bs, .ref df, .ref ch, .ref pg, .int rs])), (ch, .inr (2, [.ref cp, .ref cn, .int 0]))]) hP hD [0, 2] [1, 3] rfl rfl (by decide) (by decide) hk1 hFc hP1 hD1
      generalize H1 = H at hP hS ⊢
      have hP : va_P (dC, dI) kCl [(bs, .inl (cB, 10, .inr (.inr (.inr (.inr (fun _ => none)))))), (pg, .inr (3, [.int 400, .int 0, .int 0, .int 0, .int 0, .int 0])), (x, .inr (0, [.ref rt, .ref dr, .int 0, .int 0, .ref bs, .ref df, .ref ch, .ref pg, .int rs])), (ch, .inr (2, [.ref cp, .ref cn, .int 0]))] H := hP
      have hD : va_D A [(bs, .inl (cB, 10, .inr (.inr (.inr (.inr (fun _ => none)))))), (pg, .inr (3, [.int 400, .int 0, .int 0, .int 0, .int 0, .int 0])), (x, .inr (0, [.ref rt, .ref dr, .int 0, .int 0, .ref bs, .ref df, .ref ch, .ref pg, .int rs])), (ch, .inr (2, [.ref cp, .ref cn, .int 0]))] := hD
      refine W.widen (k := 0) (n := 0) (Nat.le_of_ble_eq_true rfl) (Nat.le_of_ble_eq_true rfl) ?_
      obtain rfl : r4 = 0 := hr5
      have hP9 := hP.sub (ws' := []) [] rfl
      have hD9 := hD.sub (ws' := []) [] (by decide) rfl
      have hK9 := hK.sub (tys' := []) [] rfl
      exact W.iret (pc := 62) hx hb hr (fun t ht hW => ⟨⟨_, (), rfl, by decide, by rw [ht]; exact hP9, va_K.moved hW.alike hK9, hD9⟩, hS.F ht⟩) hS.2.2 dV_count_62
    · refine lv_tableIn (pc := 1) (tgt := 63) (off := 62) hx hb dV_count_1 (by decide) (by decide) (by decide) rfl ?_
      refine lv_aload_n (pc := 63) hx hb dV_count_63 rfl (lv_at hl 0 rfl) ?_
      refine va_get (D := (dC, dI)) (cl := kCl) (C := RV) (T := TV) (N := 9) (pc := 64) hx hb hts inV hown hK hP 0 rfl rfl 7 (by decide) (hts _ wd_37) (fun _ h9 => h9) rfl dV_count_64 ?_
      refine va_get (D := (dC, dI)) (cl := kCl) (C := RP) (T := TP) (N := 6) (pc := 67) hx hb hts inP hown hK hP 3 rfl rfl 0 (by decide) (hts _ wd_55) (fun _ h9 => h9) rfl dV_count_67 ?_
      have hP9 := hP.sub (ws' := []) [] rfl
      have hD9 := hD.sub (ws' := []) [] (by decide) rfl
      have hK9 := hK.sub (tys' := []) [] rfl
      exact W.iret (pc := 70) hx hb hr (fun t ht hW => ⟨⟨_, (), rfl, by decide, by rw [ht]; exact hP9, va_K.moved hW.alike hK9, hD9⟩, hS.F ht⟩) hS.2.2 dV_count_70
    · refine lv_tableIn (pc := 1) (tgt := 71) (off := 70) hx hb dV_count_1 (by decide) (by decide) (by decide) rfl ?_
      refine lv_aload_n (pc := 71) hx hb dV_count_71 rfl (lv_at hl 0 rfl) ?_
      refine va_get (D := (dC, dI)) (cl := kCl) (C := RV) (T := TV) (N := 9) (pc := 72) hx hb hts inV hown hK hP 0 rfl rfl 7 (by decide) (hts _ wd_37) (fun _ h9 => h9) rfl dV_count_72 ?_
      refine va_get (D := (dC, dI)) (cl := kCl) (C := RP) (T := TP) (N := 6) (pc := 75) hx hb hts inP hown hK hP 3 rfl rfl 1 (by decide) (hts _ wd_146) (fun _ h9 => h9) rfl dV_count_75 ?_
      have hP9 := hP.sub (ws' := []) [] rfl
      have hD9 := hD.sub (ws' := []) [] (by decide) rfl
      have hK9 := hK.sub (tys' := []) [] rfl
      exact W.iret (pc := 78) hx hb hr (fun t ht hW => ⟨⟨_, (), rfl, by decide, by rw [ht]; exact hP9, va_K.moved hW.alike hK9, hD9⟩, hS.F ht⟩) hS.2.2 dV_count_78
    · refine lv_tableIn (pc := 1) (tgt := 79) (off := 78) hx hb dV_count_1 (by decide) (by decide) (by decide) rfl ?_
      refine lv_aload_n (pc := 79) hx hb dV_count_79 rfl (lv_at hl 0 rfl) ?_
      refine va_get (D := (dC, dI)) (cl := kCl) (C := RV) (T := TV) (N := 9) (pc := 80) hx hb hts inV hown hK hP 0 rfl rfl 7 (by decide) (hts _ wd_37) (fun _ h9 => h9) rfl dV_count_80 ?_
      refine va_get (D := (dC, dI)) (cl := kCl) (C := RP) (T := TP) (N := 6) (pc := 83) hx hb hts inP hown hK hP 3 rfl rfl 2 (by decide) (hts _ wd_147) (fun _ h9 => h9) rfl dV_count_83 ?_
      have hP9 := hP.sub (ws' := []) [] rfl
      have hD9 := hD.sub (ws' := []) [] (by decide) rfl
      have hK9 := hK.sub (tys' := []) [] rfl
      exact W.iret (pc := 86) hx hb hr (fun t ht hW => ⟨⟨_, (), rfl, by decide, by rw [ht]; exact hP9, va_K.moved hW.alike hK9, hD9⟩, hS.F ht⟩) hS.2.2 dV_count_86
    · refine lv_tableIn (pc := 1) (tgt := 87) (off := 86) hx hb dV_count_1 (by decide) (by decide) (by decide) rfl ?_
      refine lv_aload_n (pc := 87) hx hb dV_count_87 rfl (lv_at hl 0 rfl) ?_
      refine vp_callSi (pc := 88) (W.runV (As := []) (rest := []) ⟨hx, hb, hml, hown, hts⟩ (v_baselinesMade l dC dI x rt dr bs df ch pg rs cB) (cwV 0 hts (gV wd_149 wd_150 wd_151 wd_35 wd_148) rfl rfl rfl (by decide +kernel) ⟨Nat.le_of_ble_eq_true rfl, Nat.le_of_ble_eq_true rfl⟩) ⟨pR_blind, va_recv (q := (RV, TV, 9)) (q0 := 0) (ci := 0) hK hP rfl rfl, pR_pre (hP.sub (ws' := [(x, .inr (0, [.ref rt, .ref dr, .int 0, .int 0, .ref bs, .ref df, .ref ch, .ref pg, .int rs])), (bs, .inl (cB, 10, .inr (.inr (.inr (.inr (fun _ => none))))))]) [0, 1] rfl) (hK.sub (tys' := [(cB, .object "DrawingVault$Baseline")]) [0] rfl)⟩ rfl rfl hl.1 rfl (lv_room (Nat.le_of_ble_eq_true rfl)) dV_count_88 ⟨Nat.le_of_ble_eq_true rfl, Nat.le_of_ble_eq_true rfl⟩) (fun r7 hr8 => ?_)
      obtain rfl : r7 = 0 := hr8
      have hP9 := hP.sub (ws' := []) [] rfl
      have hD9 := hD.sub (ws' := []) [] (by decide) rfl
      have hK9 := hK.sub (tys' := []) [] rfl
      exact W.iret (pc := 91) hx hb hr (fun t ht hW => ⟨⟨_, (), rfl, by decide, by rw [ht]; exact hP9, va_K.moved hW.alike hK9, hD9⟩, hS.F ht⟩) hS.2.2 dV_count_91
    · refine lv_tableIn (pc := 1) (tgt := 92) (off := 91) hx hb dV_count_1 (by decide) (by decide) (by decide) rfl ?_
      refine lv_aload_n (pc := 92) hx hb dV_count_92 rfl (lv_at hl 0 rfl) ?_
      refine va_get (D := (dC, dI)) (cl := kCl) (C := RV) (T := TV) (N := 9) (pc := 93) hx hb hts inV hown hK hP 0 rfl rfl 7 (by decide) (hts _ wd_37) (fun _ h9 => h9) rfl dV_count_93 ?_
      refine va_get (D := (dC, dI)) (cl := kCl) (C := RP) (T := TP) (N := 6) (pc := 96) hx hb hts inP hown hK hP 3 rfl rfl 3 (by decide) (hts _ wd_38) (fun _ h9 => h9) rfl dV_count_96 ?_
      refine lv_if_eq (pc := 99) (tgt := 106) hx hb dV_count_99 rfl (fun h9 => ?_) (fun h9 => absurd h9 (by decide))
      refine lv_iconst (pc := 106) (v := 0) hx hb dV_count_106 (by decide) ?_
      have hP9 := hP.sub (ws' := []) [] rfl
      have hD9 := hD.sub (ws' := []) [] (by decide) rfl
      have hK9 := hK.sub (tys' := []) [] rfl
      exact W.iret (pc := 107) hx hb hr (fun t ht hW => ⟨⟨_, (), rfl, by decide, by rw [ht]; exact hP9, va_K.moved hW.alike hK9, hD9⟩, hS.F ht⟩) hS.2.2 dV_count_107
