abbrev cL_person : ByteArray := method_3_code
abbrev yL_person : MethodName := ⟨"DrawingVaultLaw", "person", "(LDrawingVault;II[J)I"⟩
theorem dL_person_0 : decode cL_person 0 = .ok (.aload_n 3, 1) := by decide +kernel
theorem dL_person_1 : decode cL_person 1 = .ok (.iconst 0, 1) := by decide +kernel
theorem dL_person_2 : decode cL_person 2 = .ok (.aload_n 0, 1) := by decide +kernel
theorem dL_person_3 : decode cL_person 3 = .ok (.iload_n 1, 1) := by decide +kernel
theorem dL_person_4 : decode cL_person 4 = .ok (.iload_n 2, 1) := by decide +kernel
theorem dL_person_5 : decode cL_person 5 = .ok (.invokevirtual 7, 3) := by decide +kernel
theorem dL_person_8 : decode cL_person 8 = .ok (.ifCond .eq 7, 3) := by decide +kernel
theorem dL_person_11 : decode cL_person 11 = .ok (.lconst 1, 1) := by decide +kernel
theorem dL_person_12 : decode cL_person 12 = .ok (.goto 4, 3) := by decide +kernel
theorem dL_person_15 : decode cL_person 15 = .ok (.lconst 0, 1) := by decide +kernel
theorem dL_person_16 : decode cL_person 16 = .ok (.lastore, 1) := by decide +kernel
theorem dL_person_17 : decode cL_person 17 = .ok (.goto 7, 3) := by decide +kernel
theorem dL_person_20 : decode cL_person 20 = .ok (.astore 4, 2) := by decide +kernel
theorem dL_person_22 : decode cL_person 22 = .ok (.iconst 1, 1) := by decide +kernel
theorem dL_person_23 : decode cL_person 23 = .ok (.ireturn, 1) := by decide +kernel
theorem dL_person_24 : decode cL_person 24 = .ok (.iconst 0, 1) := by decide +kernel
theorem dL_person_25 : decode cL_person 25 = .ok (.ireturn, 1) := by decide +kernel
abbrev cL_out : ByteArray := method_5_code
abbrev yL_out : MethodName := ⟨"DrawingVaultLaw", "out", "(LDrawingVault;II[J)I"⟩
theorem dL_out_0 : decode cL_out 0 = .ok (.aload_n 3, 1) := by decide +kernel
theorem dL_out_1 : decode cL_out 1 = .ok (.iconst 0, 1) := by decide +kernel
theorem dL_out_2 : decode cL_out 2 = .ok (.aload_n 0, 1) := by decide +kernel
theorem dL_out_3 : decode cL_out 3 = .ok (.iload_n 1, 1) := by decide +kernel
theorem dL_out_4 : decode cL_out 4 = .ok (.iload_n 2, 1) := by decide +kernel
theorem dL_out_5 : decode cL_out 5 = .ok (.invokevirtual 19, 3) := by decide +kernel
theorem dL_out_8 : decode cL_out 8 = .ok (.ifCond .eq 7, 3) := by decide +kernel
theorem dL_out_11 : decode cL_out 11 = .ok (.lconst 1, 1) := by decide +kernel
theorem dL_out_12 : decode cL_out 12 = .ok (.goto 4, 3) := by decide +kernel
theorem dL_out_15 : decode cL_out 15 = .ok (.lconst 0, 1) := by decide +kernel
theorem dL_out_16 : decode cL_out 16 = .ok (.lastore, 1) := by decide +kernel
theorem dL_out_17 : decode cL_out 17 = .ok (.goto 7, 3) := by decide +kernel
theorem dL_out_20 : decode cL_out 20 = .ok (.astore 4, 2) := by decide +kernel
theorem dL_out_22 : decode cL_out 22 = .ok (.iconst 1, 1) := by decide +kernel
theorem dL_out_23 : decode cL_out 23 = .ok (.ireturn, 1) := by decide +kernel
theorem dL_out_24 : decode cL_out 24 = .ok (.iconst 0, 1) := by decide +kernel
theorem dL_out_25 : decode cL_out 25 = .ok (.ireturn, 1) := by decide +kernel
abbrev cL_undo : ByteArray := method_6_code
abbrev yL_undo : MethodName := ⟨"DrawingVaultLaw", "undo", "(LDrawingVault;II[J)I"⟩
theorem dL_undo_0 : decode cL_undo 0 = .ok (.aload_n 3, 1) := by decide +kernel
theorem dL_undo_1 : decode cL_undo 1 = .ok (.iconst 0, 1) := by decide +kernel
theorem dL_undo_2 : decode cL_undo 2 = .ok (.aload_n 0, 1) := by decide +kernel
theorem dL_undo_3 : decode cL_undo 3 = .ok (.iload_n 1, 1) := by decide +kernel
theorem dL_undo_4 : decode cL_undo 4 = .ok (.iload_n 2, 1) := by decide +kernel
theorem dL_undo_5 : decode cL_undo 5 = .ok (.invokevirtual 22, 3) := by decide +kernel
theorem dL_undo_8 : decode cL_undo 8 = .ok (.ifCond .eq 7, 3) := by decide +kernel
theorem dL_undo_11 : decode cL_undo 11 = .ok (.lconst 1, 1) := by decide +kernel
theorem dL_undo_12 : decode cL_undo 12 = .ok (.goto 4, 3) := by decide +kernel
theorem dL_undo_15 : decode cL_undo 15 = .ok (.lconst 0, 1) := by decide +kernel
theorem dL_undo_16 : decode cL_undo 16 = .ok (.lastore, 1) := by decide +kernel
theorem dL_undo_17 : decode cL_undo 17 = .ok (.goto 7, 3) := by decide +kernel
theorem dL_undo_20 : decode cL_undo 20 = .ok (.astore 4, 2) := by decide +kernel
theorem dL_undo_22 : decode cL_undo 22 = .ok (.iconst 1, 1) := by decide +kernel
theorem dL_undo_23 : decode cL_undo 23 = .ok (.ireturn, 1) := by decide +kernel
theorem dL_undo_24 : decode cL_undo 24 = .ok (.iconst 0, 1) := by decide +kernel
theorem dL_undo_25 : decode cL_undo 25 = .ok (.ireturn, 1) := by decide +kernel
abbrev cL_put : ByteArray := method_7_code
abbrev yL_put : MethodName := ⟨"DrawingVaultLaw", "put", "(LDrawingVault;IIII[J)I"⟩
theorem dL_put_0 : decode cL_put 0 = .ok (.aload 5, 2) := by decide +kernel
theorem dL_put_2 : decode cL_put 2 = .ok (.iconst 0, 1) := by decide +kernel
theorem dL_put_3 : decode cL_put 3 = .ok (.aload_n 0, 1) := by decide +kernel
theorem dL_put_4 : decode cL_put 4 = .ok (.iload_n 1, 1) := by decide +kernel
theorem dL_put_5 : decode cL_put 5 = .ok (.iload_n 2, 1) := by decide +kernel
theorem dL_put_6 : decode cL_put 6 = .ok (.iload_n 3, 1) := by decide +kernel
theorem dL_put_7 : decode cL_put 7 = .ok (.iload 4, 2) := by decide +kernel
theorem dL_put_9 : decode cL_put 9 = .ok (.invokevirtual 25, 3) := by decide +kernel
theorem dL_put_12 : decode cL_put 12 = .ok (.ifCond .eq 7, 3) := by decide +kernel
theorem dL_put_15 : decode cL_put 15 = .ok (.lconst 1, 1) := by decide +kernel
theorem dL_put_16 : decode cL_put 16 = .ok (.goto 4, 3) := by decide +kernel
theorem dL_put_19 : decode cL_put 19 = .ok (.lconst 0, 1) := by decide +kernel
theorem dL_put_20 : decode cL_put 20 = .ok (.lastore, 1) := by decide +kernel
theorem dL_put_21 : decode cL_put 21 = .ok (.goto 7, 3) := by decide +kernel
theorem dL_put_24 : decode cL_put 24 = .ok (.astore 6, 2) := by decide +kernel
theorem dL_put_26 : decode cL_put 26 = .ok (.iconst 1, 1) := by decide +kernel
theorem dL_put_27 : decode cL_put 27 = .ok (.ireturn, 1) := by decide +kernel
theorem dL_put_28 : decode cL_put 28 = .ok (.iconst 0, 1) := by decide +kernel
theorem dL_put_29 : decode cL_put 29 = .ok (.ireturn, 1) := by decide +kernel
abbrev cL_resize : ByteArray := method_8_code
abbrev yL_resize : MethodName := ⟨"DrawingVaultLaw", "resize", "(LDrawingVault;III[J)I"⟩
theorem dL_resize_0 : decode cL_resize 0 = .ok (.aload 4, 2) := by decide +kernel
theorem dL_resize_2 : decode cL_resize 2 = .ok (.iconst 0, 1) := by decide +kernel
theorem dL_resize_3 : decode cL_resize 3 = .ok (.aload_n 0, 1) := by decide +kernel
theorem dL_resize_4 : decode cL_resize 4 = .ok (.iload_n 1, 1) := by decide +kernel
theorem dL_resize_5 : decode cL_resize 5 = .ok (.iload_n 2, 1) := by decide +kernel
theorem dL_resize_6 : decode cL_resize 6 = .ok (.iload_n 3, 1) := by decide +kernel
theorem dL_resize_7 : decode cL_resize 7 = .ok (.invokevirtual 29, 3) := by decide +kernel
theorem dL_resize_10 : decode cL_resize 10 = .ok (.ifCond .eq 7, 3) := by decide +kernel
theorem dL_resize_13 : decode cL_resize 13 = .ok (.lconst 1, 1) := by decide +kernel
theorem dL_resize_14 : decode cL_resize 14 = .ok (.goto 4, 3) := by decide +kernel
theorem dL_resize_17 : decode cL_resize 17 = .ok (.lconst 0, 1) := by decide +kernel
theorem dL_resize_18 : decode cL_resize 18 = .ok (.lastore, 1) := by decide +kernel
theorem dL_resize_19 : decode cL_resize 19 = .ok (.goto 7, 3) := by decide +kernel
theorem dL_resize_22 : decode cL_resize 22 = .ok (.astore 5, 2) := by decide +kernel
theorem dL_resize_24 : decode cL_resize 24 = .ok (.iconst 1, 1) := by decide +kernel
theorem dL_resize_25 : decode cL_resize 25 = .ok (.ireturn, 1) := by decide +kernel
theorem dL_resize_26 : decode cL_resize 26 = .ok (.iconst 0, 1) := by decide +kernel
theorem dL_resize_27 : decode cL_resize 27 = .ok (.ireturn, 1) := by decide +kernel
abbrev cL_ref : ByteArray := method_9_code
abbrev yL_ref : MethodName := ⟨"DrawingVaultLaw", "ref", "(LDrawingVault;IIIII[J)I"⟩
theorem dL_ref_0 : decode cL_ref 0 = .ok (.aload 6, 2) := by decide +kernel
theorem dL_ref_2 : decode cL_ref 2 = .ok (.iconst 0, 1) := by decide +kernel
theorem dL_ref_3 : decode cL_ref 3 = .ok (.aload_n 0, 1) := by decide +kernel
theorem dL_ref_4 : decode cL_ref 4 = .ok (.iload_n 1, 1) := by decide +kernel
theorem dL_ref_5 : decode cL_ref 5 = .ok (.iload_n 2, 1) := by decide +kernel
theorem dL_ref_6 : decode cL_ref 6 = .ok (.iload_n 3, 1) := by decide +kernel
theorem dL_ref_7 : decode cL_ref 7 = .ok (.iload 4, 2) := by decide +kernel
theorem dL_ref_9 : decode cL_ref 9 = .ok (.iload 5, 2) := by decide +kernel
theorem dL_ref_11 : decode cL_ref 11 = .ok (.invokevirtual 33, 3) := by decide +kernel
theorem dL_ref_14 : decode cL_ref 14 = .ok (.ifCond .eq 7, 3) := by decide +kernel
theorem dL_ref_17 : decode cL_ref 17 = .ok (.lconst 1, 1) := by decide +kernel
theorem dL_ref_18 : decode cL_ref 18 = .ok (.goto 4, 3) := by decide +kernel
theorem dL_ref_21 : decode cL_ref 21 = .ok (.lconst 0, 1) := by decide +kernel
theorem dL_ref_22 : decode cL_ref 22 = .ok (.lastore, 1) := by decide +kernel
theorem dL_ref_23 : decode cL_ref 23 = .ok (.goto 7, 3) := by decide +kernel
theorem dL_ref_26 : decode cL_ref 26 = .ok (.astore 7, 2) := by decide +kernel
theorem dL_ref_28 : decode cL_ref 28 = .ok (.iconst 1, 1) := by decide +kernel
theorem dL_ref_29 : decode cL_ref 29 = .ok (.ireturn, 1) := by decide +kernel
theorem dL_ref_30 : decode cL_ref 30 = .ok (.iconst 0, 1) := by decide +kernel
theorem dL_ref_31 : decode cL_ref 31 = .ok (.ireturn, 1) := by decide +kernel
abbrev cL_drop : ByteArray := method_10_code
abbrev yL_drop : MethodName := ⟨"DrawingVaultLaw", "drop", "(LDrawingVault;III[J)I"⟩
theorem dL_drop_0 : decode cL_drop 0 = .ok (.aload 4, 2) := by decide +kernel
theorem dL_drop_2 : decode cL_drop 2 = .ok (.iconst 0, 1) := by decide +kernel
theorem dL_drop_3 : decode cL_drop 3 = .ok (.aload_n 0, 1) := by decide +kernel
theorem dL_drop_4 : decode cL_drop 4 = .ok (.iload_n 1, 1) := by decide +kernel
theorem dL_drop_5 : decode cL_drop 5 = .ok (.iload_n 2, 1) := by decide +kernel
theorem dL_drop_6 : decode cL_drop 6 = .ok (.iload_n 3, 1) := by decide +kernel
theorem dL_drop_7 : decode cL_drop 7 = .ok (.invokevirtual 37, 3) := by decide +kernel
theorem dL_drop_10 : decode cL_drop 10 = .ok (.ifCond .eq 7, 3) := by decide +kernel
theorem dL_drop_13 : decode cL_drop 13 = .ok (.lconst 1, 1) := by decide +kernel
theorem dL_drop_14 : decode cL_drop 14 = .ok (.goto 4, 3) := by decide +kernel
theorem dL_drop_17 : decode cL_drop 17 = .ok (.lconst 0, 1) := by decide +kernel
theorem dL_drop_18 : decode cL_drop 18 = .ok (.lastore, 1) := by decide +kernel
theorem dL_drop_19 : decode cL_drop 19 = .ok (.goto 7, 3) := by decide +kernel
theorem dL_drop_22 : decode cL_drop 22 = .ok (.astore 5, 2) := by decide +kernel
theorem dL_drop_24 : decode cL_drop 24 = .ok (.iconst 1, 1) := by decide +kernel
theorem dL_drop_25 : decode cL_drop 25 = .ok (.ireturn, 1) := by decide +kernel
theorem dL_drop_26 : decode cL_drop 26 = .ok (.iconst 0, 1) := by decide +kernel
theorem dL_drop_27 : decode cL_drop 27 = .ok (.ireturn, 1) := by decide +kernel
abbrev cL_check : ByteArray := method_12_code
abbrev yL_check : MethodName := ⟨"DrawingVaultLaw", "check", "(LDrawingVault;III[J)I"⟩
theorem dL_check_0 : decode cL_check 0 = .ok (.aload 4, 2) := by decide +kernel
theorem dL_check_2 : decode cL_check 2 = .ok (.iconst 0, 1) := by decide +kernel
theorem dL_check_3 : decode cL_check 3 = .ok (.aload_n 0, 1) := by decide +kernel
theorem dL_check_4 : decode cL_check 4 = .ok (.iload_n 1, 1) := by decide +kernel
theorem dL_check_5 : decode cL_check 5 = .ok (.iload_n 2, 1) := by decide +kernel
theorem dL_check_6 : decode cL_check 6 = .ok (.iload_n 3, 1) := by decide +kernel
theorem dL_check_7 : decode cL_check 7 = .ok (.invokevirtual 44, 3) := by decide +kernel
theorem dL_check_10 : decode cL_check 10 = .ok (.ifCond .eq 7, 3) := by decide +kernel
theorem dL_check_13 : decode cL_check 13 = .ok (.lconst 1, 1) := by decide +kernel
theorem dL_check_14 : decode cL_check 14 = .ok (.goto 4, 3) := by decide +kernel
theorem dL_check_17 : decode cL_check 17 = .ok (.lconst 0, 1) := by decide +kernel
theorem dL_check_18 : decode cL_check 18 = .ok (.lastore, 1) := by decide +kernel
theorem dL_check_19 : decode cL_check 19 = .ok (.goto 7, 3) := by decide +kernel
theorem dL_check_22 : decode cL_check 22 = .ok (.astore 5, 2) := by decide +kernel
theorem dL_check_24 : decode cL_check 24 = .ok (.iconst 1, 1) := by decide +kernel
theorem dL_check_25 : decode cL_check 25 = .ok (.ireturn, 1) := by decide +kernel
theorem dL_check_26 : decode cL_check 26 = .ok (.iconst 0, 1) := by decide +kernel
theorem dL_check_27 : decode cL_check 27 = .ok (.ireturn, 1) := by decide +kernel
abbrev cL_release : ByteArray := method_13_code
abbrev yL_release : MethodName := ⟨"DrawingVaultLaw", "release", "(LDrawingVault;III[J)I"⟩
theorem dL_release_0 : decode cL_release 0 = .ok (.aload 4, 2) := by decide +kernel
theorem dL_release_2 : decode cL_release 2 = .ok (.iconst 0, 1) := by decide +kernel
theorem dL_release_3 : decode cL_release 3 = .ok (.aload_n 0, 1) := by decide +kernel
theorem dL_release_4 : decode cL_release 4 = .ok (.iload_n 1, 1) := by decide +kernel
theorem dL_release_5 : decode cL_release 5 = .ok (.iload_n 2, 1) := by decide +kernel
theorem dL_release_6 : decode cL_release 6 = .ok (.iload_n 3, 1) := by decide +kernel
theorem dL_release_7 : decode cL_release 7 = .ok (.invokevirtual 47, 3) := by decide +kernel
theorem dL_release_10 : decode cL_release 10 = .ok (.ifCond .eq 7, 3) := by decide +kernel
theorem dL_release_13 : decode cL_release 13 = .ok (.lconst 1, 1) := by decide +kernel
theorem dL_release_14 : decode cL_release 14 = .ok (.goto 4, 3) := by decide +kernel
theorem dL_release_17 : decode cL_release 17 = .ok (.lconst 0, 1) := by decide +kernel
theorem dL_release_18 : decode cL_release 18 = .ok (.lastore, 1) := by decide +kernel
theorem dL_release_19 : decode cL_release 19 = .ok (.goto 7, 3) := by decide +kernel
theorem dL_release_22 : decode cL_release 22 = .ok (.astore 5, 2) := by decide +kernel
theorem dL_release_24 : decode cL_release 24 = .ok (.iconst 1, 1) := by decide +kernel
theorem dL_release_25 : decode cL_release 25 = .ok (.ireturn, 1) := by decide +kernel
theorem dL_release_26 : decode cL_release 26 = .ok (.iconst 0, 1) := by decide +kernel
theorem dL_release_27 : decode cL_release 27 = .ok (.ireturn, 1) := by decide +kernel
abbrev cL_withdraw : ByteArray := method_14_code
abbrev yL_withdraw : MethodName := ⟨"DrawingVaultLaw", "withdraw", "(LDrawingVault;III[J)I"⟩
theorem dL_withdraw_0 : decode cL_withdraw 0 = .ok (.aload 4, 2) := by decide +kernel
theorem dL_withdraw_2 : decode cL_withdraw 2 = .ok (.iconst 0, 1) := by decide +kernel
theorem dL_withdraw_3 : decode cL_withdraw 3 = .ok (.aload_n 0, 1) := by decide +kernel
theorem dL_withdraw_4 : decode cL_withdraw 4 = .ok (.iload_n 1, 1) := by decide +kernel
theorem dL_withdraw_5 : decode cL_withdraw 5 = .ok (.iload_n 2, 1) := by decide +kernel
theorem dL_withdraw_6 : decode cL_withdraw 6 = .ok (.iload_n 3, 1) := by decide +kernel
theorem dL_withdraw_7 : decode cL_withdraw 7 = .ok (.invokevirtual 50, 3) := by decide +kernel
theorem dL_withdraw_10 : decode cL_withdraw 10 = .ok (.ifCond .eq 7, 3) := by decide +kernel
theorem dL_withdraw_13 : decode cL_withdraw 13 = .ok (.lconst 1, 1) := by decide +kernel
theorem dL_withdraw_14 : decode cL_withdraw 14 = .ok (.goto 4, 3) := by decide +kernel
theorem dL_withdraw_17 : decode cL_withdraw 17 = .ok (.lconst 0, 1) := by decide +kernel
theorem dL_withdraw_18 : decode cL_withdraw 18 = .ok (.lastore, 1) := by decide +kernel
theorem dL_withdraw_19 : decode cL_withdraw 19 = .ok (.goto 7, 3) := by decide +kernel
theorem dL_withdraw_22 : decode cL_withdraw 22 = .ok (.astore 5, 2) := by decide +kernel
theorem dL_withdraw_24 : decode cL_withdraw 24 = .ok (.iconst 1, 1) := by decide +kernel
theorem dL_withdraw_25 : decode cL_withdraw 25 = .ok (.ireturn, 1) := by decide +kernel
theorem dL_withdraw_26 : decode cL_withdraw 26 = .ok (.iconst 0, 1) := by decide +kernel
theorem dL_withdraw_27 : decode cL_withdraw 27 = .ok (.ireturn, 1) := by decide +kernel
abbrev cL_look : ByteArray := method_16_code
abbrev yL_look : MethodName := ⟨"DrawingVaultLaw", "look", "(LDrawingVault;III[J)I"⟩
theorem dL_look_0 : decode cL_look 0 = .ok (.aload 4, 2) := by decide +kernel
theorem dL_look_2 : decode cL_look 2 = .ok (.iconst 0, 1) := by decide +kernel
theorem dL_look_3 : decode cL_look 3 = .ok (.aload_n 0, 1) := by decide +kernel
theorem dL_look_4 : decode cL_look 4 = .ok (.iload_n 1, 1) := by decide +kernel
theorem dL_look_5 : decode cL_look 5 = .ok (.iload_n 2, 1) := by decide +kernel
theorem dL_look_6 : decode cL_look 6 = .ok (.iload_n 3, 1) := by decide +kernel
theorem dL_look_7 : decode cL_look 7 = .ok (.invokevirtual 56, 3) := by decide +kernel
theorem dL_look_10 : decode cL_look 10 = .ok (.i2l, 1) := by decide +kernel
theorem dL_look_11 : decode cL_look 11 = .ok (.lastore, 1) := by decide +kernel
theorem dL_look_12 : decode cL_look 12 = .ok (.goto 7, 3) := by decide +kernel
theorem dL_look_15 : decode cL_look 15 = .ok (.astore 5, 2) := by decide +kernel
theorem dL_look_17 : decode cL_look 17 = .ok (.iconst 1, 1) := by decide +kernel
theorem dL_look_18 : decode cL_look 18 = .ok (.ireturn, 1) := by decide +kernel
theorem dL_look_19 : decode cL_look 19 = .ok (.iconst 0, 1) := by decide +kernel
theorem dL_look_20 : decode cL_look 20 = .ok (.ireturn, 1) := by decide +kernel
abbrev cL_reference : ByteArray := method_17_code
abbrev yL_reference : MethodName := ⟨"DrawingVaultLaw", "reference", "(LDrawingVault;IIII[J)I"⟩
theorem dL_reference_0 : decode cL_reference 0 = .ok (.aload 5, 2) := by decide +kernel
theorem dL_reference_2 : decode cL_reference 2 = .ok (.iconst 0, 1) := by decide +kernel
theorem dL_reference_3 : decode cL_reference 3 = .ok (.aload_n 0, 1) := by decide +kernel
theorem dL_reference_4 : decode cL_reference 4 = .ok (.iload_n 1, 1) := by decide +kernel
theorem dL_reference_5 : decode cL_reference 5 = .ok (.iload_n 2, 1) := by decide +kernel
theorem dL_reference_6 : decode cL_reference 6 = .ok (.iload_n 3, 1) := by decide +kernel
theorem dL_reference_7 : decode cL_reference 7 = .ok (.iload 4, 2) := by decide +kernel
theorem dL_reference_9 : decode cL_reference 9 = .ok (.invokevirtual 62, 3) := by decide +kernel
theorem dL_reference_12 : decode cL_reference 12 = .ok (.i2l, 1) := by decide +kernel
theorem dL_reference_13 : decode cL_reference 13 = .ok (.lastore, 1) := by decide +kernel
theorem dL_reference_14 : decode cL_reference 14 = .ok (.goto 7, 3) := by decide +kernel
theorem dL_reference_17 : decode cL_reference 17 = .ok (.astore 6, 2) := by decide +kernel
theorem dL_reference_19 : decode cL_reference 19 = .ok (.iconst 1, 1) := by decide +kernel
theorem dL_reference_20 : decode cL_reference 20 = .ok (.ireturn, 1) := by decide +kernel
theorem dL_reference_21 : decode cL_reference 21 = .ok (.iconst 0, 1) := by decide +kernel
theorem dL_reference_22 : decode cL_reference 22 = .ok (.ireturn, 1) := by decide +kernel
abbrev cL_about : ByteArray := method_18_code
abbrev yL_about : MethodName := ⟨"DrawingVaultLaw", "about", "(LDrawingVault;II[J)I"⟩
theorem dL_about_0 : decode cL_about 0 = .ok (.aload_n 3, 1) := by decide +kernel
theorem dL_about_1 : decode cL_about 1 = .ok (.iconst 0, 1) := by decide +kernel
theorem dL_about_2 : decode cL_about 2 = .ok (.aload_n 0, 1) := by decide +kernel
theorem dL_about_3 : decode cL_about 3 = .ok (.iload_n 1, 1) := by decide +kernel
theorem dL_about_4 : decode cL_about 4 = .ok (.iload_n 2, 1) := by decide +kernel
theorem dL_about_5 : decode cL_about 5 = .ok (.invokevirtual 66, 3) := by decide +kernel
theorem dL_about_8 : decode cL_about 8 = .ok (.i2l, 1) := by decide +kernel
theorem dL_about_9 : decode cL_about 9 = .ok (.lastore, 1) := by decide +kernel
theorem dL_about_10 : decode cL_about 10 = .ok (.goto 7, 3) := by decide +kernel
theorem dL_about_13 : decode cL_about 13 = .ok (.astore 4, 2) := by decide +kernel
theorem dL_about_15 : decode cL_about 15 = .ok (.iconst 1, 1) := by decide +kernel
theorem dL_about_16 : decode cL_about 16 = .ok (.ireturn, 1) := by decide +kernel
theorem dL_about_17 : decode cL_about 17 = .ok (.iconst 0, 1) := by decide +kernel
theorem dL_about_18 : decode cL_about 18 = .ok (.ireturn, 1) := by decide +kernel
abbrev cL_inBaseline : ByteArray := method_19_code
abbrev yL_inBaseline : MethodName := ⟨"DrawingVaultLaw", "inBaseline", "(LDrawingVault;III[J)I"⟩
theorem dL_inBaseline_0 : decode cL_inBaseline 0 = .ok (.aload 4, 2) := by decide +kernel
theorem dL_inBaseline_2 : decode cL_inBaseline 2 = .ok (.iconst 0, 1) := by decide +kernel
theorem dL_inBaseline_3 : decode cL_inBaseline 3 = .ok (.aload_n 0, 1) := by decide +kernel
theorem dL_inBaseline_4 : decode cL_inBaseline 4 = .ok (.iload_n 1, 1) := by decide +kernel
theorem dL_inBaseline_5 : decode cL_inBaseline 5 = .ok (.iload_n 2, 1) := by decide +kernel
theorem dL_inBaseline_6 : decode cL_inBaseline 6 = .ok (.iload_n 3, 1) := by decide +kernel
theorem dL_inBaseline_7 : decode cL_inBaseline 7 = .ok (.invokevirtual 69, 3) := by decide +kernel
theorem dL_inBaseline_10 : decode cL_inBaseline 10 = .ok (.i2l, 1) := by decide +kernel
theorem dL_inBaseline_11 : decode cL_inBaseline 11 = .ok (.lastore, 1) := by decide +kernel
theorem dL_inBaseline_12 : decode cL_inBaseline 12 = .ok (.goto 7, 3) := by decide +kernel
theorem dL_inBaseline_15 : decode cL_inBaseline 15 = .ok (.astore 5, 2) := by decide +kernel
theorem dL_inBaseline_17 : decode cL_inBaseline 17 = .ok (.iconst 1, 1) := by decide +kernel
theorem dL_inBaseline_18 : decode cL_inBaseline 18 = .ok (.ireturn, 1) := by decide +kernel
theorem dL_inBaseline_19 : decode cL_inBaseline 19 = .ok (.iconst 0, 1) := by decide +kernel
theorem dL_inBaseline_20 : decode cL_inBaseline 20 = .ok (.ireturn, 1) := by decide +kernel
abbrev cL_difference : ByteArray := method_20_code
abbrev yL_difference : MethodName := ⟨"DrawingVaultLaw", "difference", "(LDrawingVault;IIII[J)I"⟩
theorem dL_difference_0 : decode cL_difference 0 = .ok (.aload 5, 2) := by decide +kernel
theorem dL_difference_2 : decode cL_difference 2 = .ok (.iconst 0, 1) := by decide +kernel
theorem dL_difference_3 : decode cL_difference 3 = .ok (.aload_n 0, 1) := by decide +kernel
theorem dL_difference_4 : decode cL_difference 4 = .ok (.iload_n 1, 1) := by decide +kernel
theorem dL_difference_5 : decode cL_difference 5 = .ok (.iload_n 2, 1) := by decide +kernel
theorem dL_difference_6 : decode cL_difference 6 = .ok (.iload_n 3, 1) := by decide +kernel
theorem dL_difference_7 : decode cL_difference 7 = .ok (.iload 4, 2) := by decide +kernel
theorem dL_difference_9 : decode cL_difference 9 = .ok (.invokevirtual 72, 3) := by decide +kernel
theorem dL_difference_12 : decode cL_difference 12 = .ok (.i2l, 1) := by decide +kernel
theorem dL_difference_13 : decode cL_difference 13 = .ok (.lastore, 1) := by decide +kernel
theorem dL_difference_14 : decode cL_difference 14 = .ok (.goto 7, 3) := by decide +kernel
theorem dL_difference_17 : decode cL_difference 17 = .ok (.astore 6, 2) := by decide +kernel
theorem dL_difference_19 : decode cL_difference 19 = .ok (.iconst 1, 1) := by decide +kernel
theorem dL_difference_20 : decode cL_difference 20 = .ok (.ireturn, 1) := by decide +kernel
theorem dL_difference_21 : decode cL_difference 21 = .ok (.iconst 0, 1) := by decide +kernel
theorem dL_difference_22 : decode cL_difference 22 = .ok (.ireturn, 1) := by decide +kernel
theorem wd_700 : (.code ⟨"DrawingVault", "person", "(II)Z"⟩ prog_1_method_2_code 4 (Option.some .boolean) : Cond) ∈ aw := aw_in (tb_2 (List.mem_of_getElem? (i := 3) rfl)) rfl
theorem wd_701 : (.methodLink "DrawingVaultLaw" 7 ⟨"DrawingVault", "person", "(II)Z"⟩ : Cond) ∈ aw := aw_in (tb_2 (List.mem_of_getElem? (i := 0) rfl)) rfl
theorem wd_702 : (.instanceMethod ⟨"DrawingVault", "person", "(II)Z"⟩ : Cond) ∈ aw := aw_in (tb_2 (List.mem_of_getElem? (i := 1) rfl)) rfl
theorem wd_703 : (.selects "DrawingVault" ⟨"DrawingVault", "person", "(II)Z"⟩ ⟨"DrawingVault", "person", "(II)Z"⟩ : Cond) ∈ aw := aw_in (tb_2 (List.mem_of_getElem? (i := 2) rfl)) rfl
theorem wd_704 : (.classLink "DrawingVaultLaw" 13 "java/lang/IllegalStateException" : Cond) ∈ aw := aw_in (tb_1 (List.mem_of_getElem? (i := 239) rfl)) rfl
theorem wd_705 : (.code ⟨"DrawingVault", "out", "(II)Z"⟩ prog_1_method_4_code 4 (Option.some .boolean) : Cond) ∈ aw := aw_in (tb_2 (List.mem_of_getElem? (i := 212) rfl)) rfl
theorem wd_706 : (.methodLink "DrawingVaultLaw" 19 ⟨"DrawingVault", "out", "(II)Z"⟩ : Cond) ∈ aw := aw_in (tb_2 (List.mem_of_getElem? (i := 209) rfl)) rfl
theorem wd_707 : (.instanceMethod ⟨"DrawingVault", "out", "(II)Z"⟩ : Cond) ∈ aw := aw_in (tb_2 (List.mem_of_getElem? (i := 210) rfl)) rfl
theorem wd_708 : (.selects "DrawingVault" ⟨"DrawingVault", "out", "(II)Z"⟩ ⟨"DrawingVault", "out", "(II)Z"⟩ : Cond) ∈ aw := aw_in (tb_2 (List.mem_of_getElem? (i := 211) rfl)) rfl
theorem wd_709 : (.code ⟨"DrawingVault", "undo", "(II)Z"⟩ prog_1_method_5_code 4 (Option.some .boolean) : Cond) ∈ aw := aw_in (tb_2 (List.mem_of_getElem? (i := 227) rfl)) rfl
theorem wd_710 : (.methodLink "DrawingVaultLaw" 22 ⟨"DrawingVault", "undo", "(II)Z"⟩ : Cond) ∈ aw := aw_in (tb_2 (List.mem_of_getElem? (i := 224) rfl)) rfl
theorem wd_711 : (.instanceMethod ⟨"DrawingVault", "undo", "(II)Z"⟩ : Cond) ∈ aw := aw_in (tb_2 (List.mem_of_getElem? (i := 225) rfl)) rfl
theorem wd_712 : (.selects "DrawingVault" ⟨"DrawingVault", "undo", "(II)Z"⟩ ⟨"DrawingVault", "undo", "(II)Z"⟩ : Cond) ∈ aw := aw_in (tb_2 (List.mem_of_getElem? (i := 226) rfl)) rfl
theorem wd_713 : (.code ⟨"DrawingVault", "put", "(IIII)Z"⟩ prog_1_method_6_code 7 (Option.some .boolean) : Cond) ∈ aw := aw_in (tb_3 (List.mem_of_getElem? (i := 9) rfl)) rfl
theorem wd_714 : (.methodLink "DrawingVaultLaw" 25 ⟨"DrawingVault", "put", "(IIII)Z"⟩ : Cond) ∈ aw := aw_in (tb_3 (List.mem_of_getElem? (i := 6) rfl)) rfl
theorem wd_715 : (.instanceMethod ⟨"DrawingVault", "put", "(IIII)Z"⟩ : Cond) ∈ aw := aw_in (tb_3 (List.mem_of_getElem? (i := 7) rfl)) rfl
theorem wd_716 : (.selects "DrawingVault" ⟨"DrawingVault", "put", "(IIII)Z"⟩ ⟨"DrawingVault", "put", "(IIII)Z"⟩ : Cond) ∈ aw := aw_in (tb_3 (List.mem_of_getElem? (i := 8) rfl)) rfl
theorem wd_717 : (.code ⟨"DrawingVault", "resize", "(III)Z"⟩ prog_1_method_7_code 6 (Option.some .boolean) : Cond) ∈ aw := aw_in (tb_3 (List.mem_of_getElem? (i := 29) rfl)) rfl
theorem wd_718 : (.methodLink "DrawingVaultLaw" 29 ⟨"DrawingVault", "resize", "(III)Z"⟩ : Cond) ∈ aw := aw_in (tb_3 (List.mem_of_getElem? (i := 26) rfl)) rfl
theorem wd_719 : (.instanceMethod ⟨"DrawingVault", "resize", "(III)Z"⟩ : Cond) ∈ aw := aw_in (tb_3 (List.mem_of_getElem? (i := 27) rfl)) rfl
theorem wd_720 : (.selects "DrawingVault" ⟨"DrawingVault", "resize", "(III)Z"⟩ ⟨"DrawingVault", "resize", "(III)Z"⟩ : Cond) ∈ aw := aw_in (tb_3 (List.mem_of_getElem? (i := 28) rfl)) rfl
theorem wd_721 : (.code ⟨"DrawingVault", "ref", "(IIIII)Z"⟩ prog_1_method_8_code 8 (Option.some .boolean) : Cond) ∈ aw := aw_in (tb_3 (List.mem_of_getElem? (i := 41) rfl)) rfl
theorem wd_722 : (.methodLink "DrawingVaultLaw" 33 ⟨"DrawingVault", "ref", "(IIIII)Z"⟩ : Cond) ∈ aw := aw_in (tb_3 (List.mem_of_getElem? (i := 38) rfl)) rfl
theorem wd_723 : (.instanceMethod ⟨"DrawingVault", "ref", "(IIIII)Z"⟩ : Cond) ∈ aw := aw_in (tb_3 (List.mem_of_getElem? (i := 39) rfl)) rfl
theorem wd_724 : (.selects "DrawingVault" ⟨"DrawingVault", "ref", "(IIIII)Z"⟩ ⟨"DrawingVault", "ref", "(IIIII)Z"⟩ : Cond) ∈ aw := aw_in (tb_3 (List.mem_of_getElem? (i := 40) rfl)) rfl
theorem wd_725 : (.code ⟨"DrawingVault", "drop", "(III)Z"⟩ prog_1_method_9_code 6 (Option.some .boolean) : Cond) ∈ aw := aw_in (tb_3 (List.mem_of_getElem? (i := 56) rfl)) rfl
theorem wd_726 : (.methodLink "DrawingVaultLaw" 37 ⟨"DrawingVault", "drop", "(III)Z"⟩ : Cond) ∈ aw := aw_in (tb_3 (List.mem_of_getElem? (i := 53) rfl)) rfl
theorem wd_727 : (.instanceMethod ⟨"DrawingVault", "drop", "(III)Z"⟩ : Cond) ∈ aw := aw_in (tb_3 (List.mem_of_getElem? (i := 54) rfl)) rfl
theorem wd_728 : (.selects "DrawingVault" ⟨"DrawingVault", "drop", "(III)Z"⟩ ⟨"DrawingVault", "drop", "(III)Z"⟩ : Cond) ∈ aw := aw_in (tb_3 (List.mem_of_getElem? (i := 55) rfl)) rfl
theorem wd_729 : (.code ⟨"DrawingVault", "check", "(III)Z"⟩ prog_1_method_11_code 4 (Option.some .boolean) : Cond) ∈ aw := aw_in (tb_3 (List.mem_of_getElem? (i := 99) rfl)) rfl
theorem wd_730 : (.methodLink "DrawingVaultLaw" 44 ⟨"DrawingVault", "check", "(III)Z"⟩ : Cond) ∈ aw := aw_in (tb_3 (List.mem_of_getElem? (i := 96) rfl)) rfl
theorem wd_731 : (.instanceMethod ⟨"DrawingVault", "check", "(III)Z"⟩ : Cond) ∈ aw := aw_in (tb_3 (List.mem_of_getElem? (i := 97) rfl)) rfl
theorem wd_732 : (.selects "DrawingVault" ⟨"DrawingVault", "check", "(III)Z"⟩ ⟨"DrawingVault", "check", "(III)Z"⟩ : Cond) ∈ aw := aw_in (tb_3 (List.mem_of_getElem? (i := 98) rfl)) rfl
theorem wd_733 : (.code ⟨"DrawingVault", "release", "(III)Z"⟩ prog_1_method_12_code 4 (Option.some .boolean) : Cond) ∈ aw := aw_in (tb_3 (List.mem_of_getElem? (i := 114) rfl)) rfl
theorem wd_734 : (.methodLink "DrawingVaultLaw" 47 ⟨"DrawingVault", "release", "(III)Z"⟩ : Cond) ∈ aw := aw_in (tb_3 (List.mem_of_getElem? (i := 111) rfl)) rfl
theorem wd_735 : (.instanceMethod ⟨"DrawingVault", "release", "(III)Z"⟩ : Cond) ∈ aw := aw_in (tb_3 (List.mem_of_getElem? (i := 112) rfl)) rfl
theorem wd_736 : (.selects "DrawingVault" ⟨"DrawingVault", "release", "(III)Z"⟩ ⟨"DrawingVault", "release", "(III)Z"⟩ : Cond) ∈ aw := aw_in (tb_3 (List.mem_of_getElem? (i := 113) rfl)) rfl
theorem wd_737 : (.code ⟨"DrawingVault", "withdraw", "(III)Z"⟩ prog_1_method_13_code 4 (Option.some .boolean) : Cond) ∈ aw := aw_in (tb_3 (List.mem_of_getElem? (i := 141) rfl)) rfl
theorem wd_738 : (.methodLink "DrawingVaultLaw" 50 ⟨"DrawingVault", "withdraw", "(III)Z"⟩ : Cond) ∈ aw := aw_in (tb_3 (List.mem_of_getElem? (i := 138) rfl)) rfl
theorem wd_739 : (.instanceMethod ⟨"DrawingVault", "withdraw", "(III)Z"⟩ : Cond) ∈ aw := aw_in (tb_3 (List.mem_of_getElem? (i := 139) rfl)) rfl
theorem wd_740 : (.selects "DrawingVault" ⟨"DrawingVault", "withdraw", "(III)Z"⟩ ⟨"DrawingVault", "withdraw", "(III)Z"⟩ : Cond) ∈ aw := aw_in (tb_3 (List.mem_of_getElem? (i := 140) rfl)) rfl
theorem wd_741 : (.code ⟨"DrawingVault", "look", "(III)I"⟩ prog_1_method_16_code 5 (Option.some .int) : Cond) ∈ aw := aw_in (tb_3 (List.mem_of_getElem? (i := 197) rfl)) rfl
theorem wd_742 : (.methodLink "DrawingVaultLaw" 56 ⟨"DrawingVault", "look", "(III)I"⟩ : Cond) ∈ aw := aw_in (tb_3 (List.mem_of_getElem? (i := 194) rfl)) rfl
theorem wd_743 : (.instanceMethod ⟨"DrawingVault", "look", "(III)I"⟩ : Cond) ∈ aw := aw_in (tb_3 (List.mem_of_getElem? (i := 195) rfl)) rfl
theorem wd_744 : (.selects "DrawingVault" ⟨"DrawingVault", "look", "(III)I"⟩ ⟨"DrawingVault", "look", "(III)I"⟩ : Cond) ∈ aw := aw_in (tb_3 (List.mem_of_getElem? (i := 196) rfl)) rfl
theorem wd_745 : (.classLink "DrawingVaultLaw" 60 "java/lang/IndexOutOfBoundsException" : Cond) ∈ aw := aw_in (tb_3 (List.mem_of_getElem? (i := 193) rfl)) rfl
theorem wd_746 : (.code ⟨"DrawingVault", "reference", "(IIII)I"⟩ prog_1_method_17_code 8 (Option.some .int) : Cond) ∈ aw := aw_in (tb_3 (List.mem_of_getElem? (i := 226) rfl)) rfl
theorem wd_747 : (.methodLink "DrawingVaultLaw" 62 ⟨"DrawingVault", "reference", "(IIII)I"⟩ : Cond) ∈ aw := aw_in (tb_3 (List.mem_of_getElem? (i := 223) rfl)) rfl
theorem wd_748 : (.instanceMethod ⟨"DrawingVault", "reference", "(IIII)I"⟩ : Cond) ∈ aw := aw_in (tb_3 (List.mem_of_getElem? (i := 224) rfl)) rfl
theorem wd_749 : (.selects "DrawingVault" ⟨"DrawingVault", "reference", "(IIII)I"⟩ ⟨"DrawingVault", "reference", "(IIII)I"⟩ : Cond) ∈ aw := aw_in (tb_3 (List.mem_of_getElem? (i := 225) rfl)) rfl
theorem wd_750 : (.code ⟨"DrawingVault", "about", "(II)I"⟩ prog_1_method_18_code 4 (Option.some .int) : Cond) ∈ aw := aw_in (tb_3 (List.mem_of_getElem? (i := 233) rfl)) rfl
theorem wd_751 : (.methodLink "DrawingVaultLaw" 66 ⟨"DrawingVault", "about", "(II)I"⟩ : Cond) ∈ aw := aw_in (tb_3 (List.mem_of_getElem? (i := 230) rfl)) rfl
theorem wd_752 : (.instanceMethod ⟨"DrawingVault", "about", "(II)I"⟩ : Cond) ∈ aw := aw_in (tb_3 (List.mem_of_getElem? (i := 231) rfl)) rfl
theorem wd_753 : (.selects "DrawingVault" ⟨"DrawingVault", "about", "(II)I"⟩ ⟨"DrawingVault", "about", "(II)I"⟩ : Cond) ∈ aw := aw_in (tb_3 (List.mem_of_getElem? (i := 232) rfl)) rfl
theorem wd_754 : (.code ⟨"DrawingVault", "inBaseline", "(III)I"⟩ prog_1_method_19_code 6 (Option.some .int) : Cond) ∈ aw := aw_in (tb_4 (List.mem_of_getElem? (i := 3) rfl)) rfl
theorem wd_755 : (.methodLink "DrawingVaultLaw" 69 ⟨"DrawingVault", "inBaseline", "(III)I"⟩ : Cond) ∈ aw := aw_in (tb_4 (List.mem_of_getElem? (i := 0) rfl)) rfl
theorem wd_756 : (.instanceMethod ⟨"DrawingVault", "inBaseline", "(III)I"⟩ : Cond) ∈ aw := aw_in (tb_4 (List.mem_of_getElem? (i := 1) rfl)) rfl
theorem wd_757 : (.selects "DrawingVault" ⟨"DrawingVault", "inBaseline", "(III)I"⟩ ⟨"DrawingVault", "inBaseline", "(III)I"⟩ : Cond) ∈ aw := aw_in (tb_4 (List.mem_of_getElem? (i := 2) rfl)) rfl
theorem wd_758 : (.code ⟨"DrawingVault", "difference", "(IIII)I"⟩ prog_1_method_21_code 9 (Option.some .int) : Cond) ∈ aw := aw_in (tb_4 (List.mem_of_getElem? (i := 14) rfl)) rfl
theorem wd_759 : (.methodLink "DrawingVaultLaw" 72 ⟨"DrawingVault", "difference", "(IIII)I"⟩ : Cond) ∈ aw := aw_in (tb_4 (List.mem_of_getElem? (i := 11) rfl)) rfl
theorem wd_760 : (.instanceMethod ⟨"DrawingVault", "difference", "(IIII)I"⟩ : Cond) ∈ aw := aw_in (tb_4 (List.mem_of_getElem? (i := 12) rfl)) rfl
theorem wd_761 : (.selects "DrawingVault" ⟨"DrawingVault", "difference", "(IIII)I"⟩ ⟨"DrawingVault", "difference", "(IIII)I"⟩ : Cond) ∈ aw := aw_in (tb_4 (List.mem_of_getElem? (i := 13) rfl)) rfl

def L_person (n : Nat) (σ : hT) (a1 : Int32) (a2 : Int32) : Option (Int32 × hT) := Option.bind (V_person n σ a1 a2) fun ⟨y2o, σ3⟩ => cx9 y2o (some (1, σ3)) fun y2 => lt9 (α := Int64 → Option (Int32 × hT)) (fun (s6 : Int64) => lt9 (sL σ3 24 0 0 s6) fun σ8 => some (0, σ8)) fun x5 => if y2 = 0 then x5 0 else x5 1
set_option maxHeartbeats 4000000 in
set_option maxRecDepth 100000 in
theorem t_L_person (l : Launch) (dC : Nat → ClassId) (dI : Nat → Nat → Nat) (ad : Nat → Nat → Nat) (ca : Nat → Nat → ClassId) (dom : List (Nat × Nat)) (sz : Nat) (n : Nat) (σ : hT) (a1 : Int32) (a2 : Int32) (hm0 : (0, 0) ∈ dom) (hm3 : (24, 0) ∈ dom) (hN : dom.Nodup) (hC : clo dom σ.2.2) (hfl : l.stackTraces = false) (ρ : Int32) (σ' : hT) (hf : L_person n σ a1 a2 = some (ρ, σ')) : Met l yL_person (.codeWith yL_person cL_person 5 (some .int) [(0, 17, 20, 13)] :: aw) ({ frames := 8, cells := 1, slots := 6, locals := 148 }) (hX (dC, dI) sz ad ca dom σ [.ref (ad 0 0), .int a1, .int a2, .ref (ad 24 0)]) (va_Qi (fun r (_ : Unit) => r = ρ) (fun _ t => hB (dC, dI) (va_A (w9 ad ca dom σ) sz) ad ca dom σ' t) (va_A (w9 ad ca dom σ) sz)) 1 6 (va_A (w9 ad ca dom σ) sz) := by
  refine va_MetW (hh := [(0, 17, 20, 13)]) (cc := cL_person) (maxL := 5) (ret := (some .int)) (by decide) rfl ?_
  intro p e s m args below meth c s₁ B hml hv
  obtain ⟨rfl, hv⟩ := hv
  obtain ⟨m9, meth9, c9, hn9, g1, g2, -, -, g6, -⟩ := Cond.codeWith_spec (atoms_spec (ws := (.codeWith yL_person cL_person 5 (some .int) [(0, 17, 20, 13)] :: aw)) B.pre _ List.mem_cons_self)
  cases Option.some.inj (hn9.symm.trans B.named)
  cases Option.some.inj (g1.symm.trans B.method)
  cases Option.some.inj (g2.symm.trans (Stand.of_body B).code)
  have htab := tab1 g6
  have hx := B.exec
  have hb := B.bytes
  have hr := B.returns
  have hts : ∀ w ∈ aw, w.before _ s = true := fun w h => atoms_spec (ws := (.codeWith yL_person cL_person 5 (some .int) [(0, 17, 20, 13)] :: aw)) B.pre w (List.mem_cons_of_mem _ h)
  have hown : s.vm.findClass RL = some m.cls := findClass_of_methodNamed B.named
  have hlocks := B.notSynchronized
  obtain ⟨hsz, hP, hK, hD0, hG, hE⟩ := hv
  subst hsz
  have hD := hD0.self (sz := s.heap.size)
  generalize hAe : va_A (w9 ad ca dom σ) s.heap.size = A at hD ⊢
  have hSA : ∀ q : Nat, q < s.heap.size → A q → xS ad dom q := fun q h z => by rw [← hAe] at z; exact w9_xS z h
  have hA : ∀ q : Nat, s.heap.size ≤ q → A q := fun q h => by rw [← hAe]; exact Or.inr h
  obtain ⟨H, hH⟩ : ∃ H, H = s.heap := ⟨_, rfl⟩
  have hS : va_S A s.heap H [] := by rw [hH]; exact va_S.rf
  rw [← hH] at hP ⊢
  unfold L_person at hf
  have hl := lv_entry ([.ref (ad 0 0), .int a1, .int a2, .ref (ad 24 0)]) (n := 5) (Nat.le_of_ble_eq_true rfl)
  rw [lg_entry_eq]
  generalize (lg_sl ([.ref (ad 0 0), .int a1, .int a2, .ref (ad 24 0)]) ++ List.replicate (5 - (lg_sl ([.ref (ad 0 0), .int a1, .int a2, .ref (ad 24 0)])).length) Slot.unset).toArray = ls at hl ⊢
  have hl : lv_has ls 5 [(0, .ref (ad 0 0)), (1, .int a1), (2, .int a2), (3, .ref (ad 24 0))] := hl
  refine lv_aload_n (pc := 0) hx hb dL_person_0 rfl (lv_at hl 3 rfl) ?_
  refine lv_iconst (pc := 1) (v := 0) hx hb dL_person_1 (by decide) ?_
  refine lv_aload_n (pc := 2) hx hb dL_person_2 rfl (lv_at hl 0 rfl) ?_
  refine lv_iload_n (pc := 3) hx hb dL_person_3 rfl (lv_at hl 1 rfl) ?_
  refine lv_iload_n (pc := 4) hx hb dL_person_4 rfl (lv_at hl 2 rfl) ?_
  obtain ⟨q1, hq1, eq1⟩ := at_0 (ad := ad) (ca := ca) (σ := σ) hm0
  obtain ⟨⟨y2o, σ3⟩, hy2, hf⟩ := ob hf
  rcases y2o with _ | y2
  · replace hf := cx_n hf
    have hFc := w9_free hD hS hA
    refine tCatchV (pc := 5) (As := [.int a1, .int a2]) (rest := [.int 0, .ref (ad 24 0)]) (C := RV) (E := nIS) (name := nIS) ⟨hx, hb, hml, hown, hts⟩ (x_V_person l dC dI ad ca dom H.size n σ a1 a2 hm0 hN hC σ3 hfl hy2) (cwV 2 hts (gV wd_701 wd_702 wd_703 wd_254 wd_700) rfl rfl rfl (by decide +kernel) ⟨Nat.le_of_ble_eq_true rfl, Nat.le_of_ble_eq_true rfl⟩) ⟨hX_blind, va_recv (q := (RV, TV, 9)) (q0 := q1) (ci := 0) hK.1 hP rfl eq1, hX_pre hP hK hD hG hE hS hSA⟩ rfl hl.1 rfl (lv_room (Nat.le_of_ble_eq_true rfl)) dL_person_5 ⟨Nat.le_of_ble_eq_true rfl, Nat.le_of_ble_eq_true rfl⟩ htab (by decide) (by decide) (hts _ wd_704) (va_Nw.use rfl hE.2.1) (fun q4 L9 H1 hq9 hz9 hL9 hB9 hk9 => ?_)
    obtain ⟨hP, hD, hC⟩ := hB9
    replace hD := hD.weaken (fun _ _ _ h => hFc _ h)
    have hS := cS9 hS hz9 hL9 hFc hk9
    generalize H1 = H at hP hS ⊢
    refine W.widen (k := 1) (n := 6) (Nat.le_of_ble_eq_true rfl) (Nat.le_of_ble_eq_true rfl) ?_
    refine lv_astore (pc := 20) hx hb dL_person_20 hl (by decide) rfl (fun ls hl => ?_)
    have hl : lv_has ls 5 [(4, .ref q4), (0, .ref (ad 0 0)), (1, .int a1), (2, .int a2), (3, .ref (ad 24 0))] := hl
    refine lv_iconst (pc := 22) (v := 1) hx hb dL_person_22 (by decide) ?_
    obtain ⟨h8, h9⟩ := Prod.mk.inj (Option.some.inj hf)
    subst h9
    exact W.iret (pc := 23) hx hb hr (fun t ht hW => ⟨⟨_, (), rfl, h8, by rw [ht]; exact hP, hD, hC⟩, hS.F ht⟩) hS.2.2 dL_person_23
  replace hf := cx_s hf
  have hFc := w9_free hD hS hA
  refine va_calli (pc := 5) (va_runV (As := [.int a1, .int a2]) (rest := [.int 0, .ref (ad 24 0)]) ⟨hx, hb, hml, hown, hts⟩ (t_V_person l dC dI ad ca dom H.size n σ a1 a2 hm0 hN hC y2 σ3 hy2) (cwV 2 hts (gV wd_701 wd_702 wd_703 wd_254 wd_700) rfl rfl rfl (by decide +kernel) ⟨Nat.le_of_ble_eq_true rfl, Nat.le_of_ble_eq_true rfl⟩) ⟨hW_blind, va_recv (q := (RV, TV, 9)) (q0 := q1) (ci := 0) hK.1 hP rfl eq1, hW_pre hP hK hD hG⟩ rfl rfl hl.1 rfl (lv_room (Nat.le_of_ble_eq_true rfl)) dL_person_5 ⟨Nat.le_of_ble_eq_true rfl, Nat.le_of_ble_eq_true rfl⟩) hS (fun q _ h => hFc q h) hFc (fun r9 u t H1 locs ht hvm hr9 hB hz1 hk1 hS => ?_)
  obtain ⟨hP, hD, hC⟩ := hB
  rw [ht] at hP
  replace hD := hD.weaken (fun _ _ _ h => hFc _ h)
  generalize H1 = H at hP hS ⊢
  refine W.eq (g2 := F0 m 8 ls [.int y2, .int 0, .ref (ad 24 0)]) (by rw [hr9]) ?_
  obtain ⟨x5, hx5, hf⟩ := lt_9 hf
  refine jnF (τ := (Int64) × (Heap) × (List Loc) × (Array Slot)) (fun pc st z => W p l e _ s m _ below meth c z.2.1 z.2.2.1 0 0 _ (F0 m pc z.2.2.2 st)) (pc0 := 8) (st0 := [.int y2, .int 0, .ref (ad 24 0)]) (z0 := (0, H, _, ls)) 16 (fun z => [.long z.1, .int 0, .ref (ad 24 0)]) (fun z => va_P (dC, dI) kCl (w9 ad ca dom (σ3)) z.2.1 ∧ va_D A (w9 ad ca dom (σ3)) ∧ va_S A s.heap z.2.1 z.2.2.1 ∧ lv_has z.2.2.2 5 [(0, .ref (ad 0 0)), (1, .int a1), (2, .int a2), (3, .ref (ad 24 0))]) (fun z => x5 z.1) (ρ, σ') ?_ ?_
  · intro hJx5
    dsimp only at hJx5 ⊢
    refine lv_if_eq (pc := 8) (tgt := 15) hx hb dL_person_8 rfl (fun h7 => ?_) (fun h7 => ?_)
    · replace hf := ite_t h7 hf
      refine lv_lconst (pc := 15) (v := 0) hx hb dL_person_15 (by decide) ?_
      have hl := lv_sub hl (l' := [(0, .ref (ad 0 0)), (1, .int a1), (2, .int a2), (3, .ref (ad 24 0))]) [0, 1, 2, 3] rfl
      exact hJx5 (0, H, _, ls) ⟨hP, hD, hS, hl⟩ hf
    · replace hf := ite_f h7 hf
      refine lv_lconst (pc := 11) (v := 1) hx hb dL_person_11 (by decide) ?_
      refine lv_goto (pc := 12) (tgt := 16) hx hb dL_person_12 rfl ?_
      have hl := lv_sub hl (l' := [(0, .ref (ad 0 0)), (1, .int a1), (2, .int a2), (3, .ref (ad 24 0))]) [0, 1, 2, 3] rfl
      exact hJx5 (1, H, _, ls) ⟨hP, hD, hS, hl⟩ hf
  · rintro ⟨s6, H, locs, ls⟩ ⟨hP, hD, hS, hl⟩ hf
    dsimp only at hP hD hS hl hf ⊢
    rw [hx5] at hf
    have hl : lv_has ls 5 [(0, .ref (ad 0 0)), (1, .int a1), (2, .int a2), (3, .ref (ad 24 0))] := hl
    obtain ⟨q9, hq9, eq9⟩ := at_24 (ad := ad) (ca := ca) (σ := σ3) hm3
    refine va_last (D := (dC, dI)) (cl := kCl) (pc := 16) hx hb (hK.2 24 0 .long hm3 rfl) hP hD hS q9 0 eq9 rfl (vp_in_lit 0 1 (by decide)) dL_person_16 (fun H locs hP hD hS => ?_)
    obtain ⟨σ8, hσ8, hf⟩ := lt_9 hf
    obtain ⟨hP, hD⟩ := w9_rL 24 rfl hN hq9 hσ8 (pr_24) hP hD
    have hC : clo dom σ8.2.2 := by rw [hσ8]; exact hC
    refine lv_goto (pc := 17) (tgt := 24) hx hb dL_person_17 rfl ?_
    refine lv_iconst (pc := 24) (v := 0) hx hb dL_person_24 (by decide) ?_
    obtain ⟨h8, h9⟩ := Prod.mk.inj (Option.some.inj hf)
    subst h9
    refine W.widen (k := 1) (n := 6) (Nat.le_of_ble_eq_true rfl) (Nat.le_of_ble_eq_true rfl) ?_
    exact W.iret (pc := 25) hx hb hr (fun t ht hW => ⟨⟨_, (), rfl, h8, by rw [ht]; exact hP, hD, hC⟩, hS.F ht⟩) hS.2.2 dL_person_25
def L_out (n : Nat) (σ : hT) (a1 : Int32) (a2 : Int32) : Option (Int32 × hT) := Option.bind (V_out n σ a1 a2) fun ⟨y2o, σ3⟩ => cx9 y2o (some (1, σ3)) fun y2 => lt9 (α := Int64 → Option (Int32 × hT)) (fun (s6 : Int64) => lt9 (sL σ3 24 0 0 s6) fun σ8 => some (0, σ8)) fun x5 => if y2 = 0 then x5 0 else x5 1
set_option maxHeartbeats 4000000 in
set_option maxRecDepth 100000 in
theorem t_L_out (l : Launch) (dC : Nat → ClassId) (dI : Nat → Nat → Nat) (ad : Nat → Nat → Nat) (ca : Nat → Nat → ClassId) (dom : List (Nat × Nat)) (sz : Nat) (n : Nat) (σ : hT) (a1 : Int32) (a2 : Int32) (hm0 : (0, 0) ∈ dom) (hm3 : (24, 0) ∈ dom) (hN : dom.Nodup) (hC : clo dom σ.2.2) (hfl : l.stackTraces = false) (ρ : Int32) (σ' : hT) (hf : L_out n σ a1 a2 = some (ρ, σ')) : Met l yL_out (.codeWith yL_out cL_out 5 (some .int) [(0, 17, 20, 13)] :: aw) ({ frames := 8, cells := 1, slots := 6, locals := 148 }) (hX (dC, dI) sz ad ca dom σ [.ref (ad 0 0), .int a1, .int a2, .ref (ad 24 0)]) (va_Qi (fun r (_ : Unit) => r = ρ) (fun _ t => hB (dC, dI) (va_A (w9 ad ca dom σ) sz) ad ca dom σ' t) (va_A (w9 ad ca dom σ) sz)) 1 6 (va_A (w9 ad ca dom σ) sz) := by
  refine va_MetW (hh := [(0, 17, 20, 13)]) (cc := cL_out) (maxL := 5) (ret := (some .int)) (by decide) rfl ?_
  intro p e s m args below meth c s₁ B hml hv
  obtain ⟨rfl, hv⟩ := hv
  obtain ⟨m9, meth9, c9, hn9, g1, g2, -, -, g6, -⟩ := Cond.codeWith_spec (atoms_spec (ws := (.codeWith yL_out cL_out 5 (some .int) [(0, 17, 20, 13)] :: aw)) B.pre _ List.mem_cons_self)
  cases Option.some.inj (hn9.symm.trans B.named)
  cases Option.some.inj (g1.symm.trans B.method)
  cases Option.some.inj (g2.symm.trans (Stand.of_body B).code)
  have htab := tab1 g6
  have hx := B.exec
  have hb := B.bytes
  have hr := B.returns
  have hts : ∀ w ∈ aw, w.before _ s = true := fun w h => atoms_spec (ws := (.codeWith yL_out cL_out 5 (some .int) [(0, 17, 20, 13)] :: aw)) B.pre w (List.mem_cons_of_mem _ h)
  have hown : s.vm.findClass RL = some m.cls := findClass_of_methodNamed B.named
  have hlocks := B.notSynchronized
  obtain ⟨hsz, hP, hK, hD0, hG, hE⟩ := hv
  subst hsz
  have hD := hD0.self (sz := s.heap.size)
  generalize hAe : va_A (w9 ad ca dom σ) s.heap.size = A at hD ⊢
  have hSA : ∀ q : Nat, q < s.heap.size → A q → xS ad dom q := fun q h z => by rw [← hAe] at z; exact w9_xS z h
  have hA : ∀ q : Nat, s.heap.size ≤ q → A q := fun q h => by rw [← hAe]; exact Or.inr h
  obtain ⟨H, hH⟩ : ∃ H, H = s.heap := ⟨_, rfl⟩
  have hS : va_S A s.heap H [] := by rw [hH]; exact va_S.rf
  rw [← hH] at hP ⊢
  unfold L_out at hf
  have hl := lv_entry ([.ref (ad 0 0), .int a1, .int a2, .ref (ad 24 0)]) (n := 5) (Nat.le_of_ble_eq_true rfl)
  rw [lg_entry_eq]
  generalize (lg_sl ([.ref (ad 0 0), .int a1, .int a2, .ref (ad 24 0)]) ++ List.replicate (5 - (lg_sl ([.ref (ad 0 0), .int a1, .int a2, .ref (ad 24 0)])).length) Slot.unset).toArray = ls at hl ⊢
  have hl : lv_has ls 5 [(0, .ref (ad 0 0)), (1, .int a1), (2, .int a2), (3, .ref (ad 24 0))] := hl
  refine lv_aload_n (pc := 0) hx hb dL_out_0 rfl (lv_at hl 3 rfl) ?_
  refine lv_iconst (pc := 1) (v := 0) hx hb dL_out_1 (by decide) ?_
  refine lv_aload_n (pc := 2) hx hb dL_out_2 rfl (lv_at hl 0 rfl) ?_
  refine lv_iload_n (pc := 3) hx hb dL_out_3 rfl (lv_at hl 1 rfl) ?_
  refine lv_iload_n (pc := 4) hx hb dL_out_4 rfl (lv_at hl 2 rfl) ?_
  obtain ⟨q1, hq1, eq1⟩ := at_0 (ad := ad) (ca := ca) (σ := σ) hm0
  obtain ⟨⟨y2o, σ3⟩, hy2, hf⟩ := ob hf
  rcases y2o with _ | y2
  · replace hf := cx_n hf
    have hFc := w9_free hD hS hA
    refine tCatchV (pc := 5) (As := [.int a1, .int a2]) (rest := [.int 0, .ref (ad 24 0)]) (C := RV) (E := nIS) (name := nIS) ⟨hx, hb, hml, hown, hts⟩ (x_V_out l dC dI ad ca dom H.size n σ a1 a2 hm0 hN hC σ3 hfl hy2) (cwV 2 hts (gV wd_706 wd_707 wd_708 wd_254 wd_705) rfl rfl rfl (by decide +kernel) ⟨Nat.le_of_ble_eq_true rfl, Nat.le_of_ble_eq_true rfl⟩) ⟨hX_blind, va_recv (q := (RV, TV, 9)) (q0 := q1) (ci := 0) hK.1 hP rfl eq1, hX_pre hP hK hD hG hE hS hSA⟩ rfl hl.1 rfl (lv_room (Nat.le_of_ble_eq_true rfl)) dL_out_5 ⟨Nat.le_of_ble_eq_true rfl, Nat.le_of_ble_eq_true rfl⟩ htab (by decide) (by decide) (hts _ wd_704) (va_Nw.use rfl hE.2.1) (fun q4 L9 H1 hq9 hz9 hL9 hB9 hk9 => ?_)
    obtain ⟨hP, hD, hC⟩ := hB9
    replace hD := hD.weaken (fun _ _ _ h => hFc _ h)
    have hS := cS9 hS hz9 hL9 hFc hk9
    generalize H1 = H at hP hS ⊢
    refine W.widen (k := 1) (n := 6) (Nat.le_of_ble_eq_true rfl) (Nat.le_of_ble_eq_true rfl) ?_
    refine lv_astore (pc := 20) hx hb dL_out_20 hl (by decide) rfl (fun ls hl => ?_)
    have hl : lv_has ls 5 [(4, .ref q4), (0, .ref (ad 0 0)), (1, .int a1), (2, .int a2), (3, .ref (ad 24 0))] := hl
    refine lv_iconst (pc := 22) (v := 1) hx hb dL_out_22 (by decide) ?_
    obtain ⟨h8, h9⟩ := Prod.mk.inj (Option.some.inj hf)
    subst h9
    exact W.iret (pc := 23) hx hb hr (fun t ht hW => ⟨⟨_, (), rfl, h8, by rw [ht]; exact hP, hD, hC⟩, hS.F ht⟩) hS.2.2 dL_out_23
  replace hf := cx_s hf
  have hFc := w9_free hD hS hA
  refine va_calli (pc := 5) (va_runV (As := [.int a1, .int a2]) (rest := [.int 0, .ref (ad 24 0)]) ⟨hx, hb, hml, hown, hts⟩ (t_V_out l dC dI ad ca dom H.size n σ a1 a2 hm0 hN hC y2 σ3 hy2) (cwV 2 hts (gV wd_706 wd_707 wd_708 wd_254 wd_705) rfl rfl rfl (by decide +kernel) ⟨Nat.le_of_ble_eq_true rfl, Nat.le_of_ble_eq_true rfl⟩) ⟨hW_blind, va_recv (q := (RV, TV, 9)) (q0 := q1) (ci := 0) hK.1 hP rfl eq1, hW_pre hP hK hD hG⟩ rfl rfl hl.1 rfl (lv_room (Nat.le_of_ble_eq_true rfl)) dL_out_5 ⟨Nat.le_of_ble_eq_true rfl, Nat.le_of_ble_eq_true rfl⟩) hS (fun q _ h => hFc q h) hFc (fun r9 u t H1 locs ht hvm hr9 hB hz1 hk1 hS => ?_)
  obtain ⟨hP, hD, hC⟩ := hB
  rw [ht] at hP
  replace hD := hD.weaken (fun _ _ _ h => hFc _ h)
  generalize H1 = H at hP hS ⊢
  refine W.eq (g2 := F0 m 8 ls [.int y2, .int 0, .ref (ad 24 0)]) (by rw [hr9]) ?_
  obtain ⟨x5, hx5, hf⟩ := lt_9 hf
  refine jnF (τ := (Int64) × (Heap) × (List Loc) × (Array Slot)) (fun pc st z => W p l e _ s m _ below meth c z.2.1 z.2.2.1 0 0 _ (F0 m pc z.2.2.2 st)) (pc0 := 8) (st0 := [.int y2, .int 0, .ref (ad 24 0)]) (z0 := (0, H, _, ls)) 16 (fun z => [.long z.1, .int 0, .ref (ad 24 0)]) (fun z => va_P (dC, dI) kCl (w9 ad ca dom (σ3)) z.2.1 ∧ va_D A (w9 ad ca dom (σ3)) ∧ va_S A s.heap z.2.1 z.2.2.1 ∧ lv_has z.2.2.2 5 [(0, .ref (ad 0 0)), (1, .int a1), (2, .int a2), (3, .ref (ad 24 0))]) (fun z => x5 z.1) (ρ, σ') ?_ ?_
  · intro hJx5
    dsimp only at hJx5 ⊢
    refine lv_if_eq (pc := 8) (tgt := 15) hx hb dL_out_8 rfl (fun h7 => ?_) (fun h7 => ?_)
    · replace hf := ite_t h7 hf
      refine lv_lconst (pc := 15) (v := 0) hx hb dL_out_15 (by decide) ?_
      have hl := lv_sub hl (l' := [(0, .ref (ad 0 0)), (1, .int a1), (2, .int a2), (3, .ref (ad 24 0))]) [0, 1, 2, 3] rfl
      exact hJx5 (0, H, _, ls) ⟨hP, hD, hS, hl⟩ hf
    · replace hf := ite_f h7 hf
      refine lv_lconst (pc := 11) (v := 1) hx hb dL_out_11 (by decide) ?_
      refine lv_goto (pc := 12) (tgt := 16) hx hb dL_out_12 rfl ?_
      have hl := lv_sub hl (l' := [(0, .ref (ad 0 0)), (1, .int a1), (2, .int a2), (3, .ref (ad 24 0))]) [0, 1, 2, 3] rfl
      exact hJx5 (1, H, _, ls) ⟨hP, hD, hS, hl⟩ hf
  · rintro ⟨s6, H, locs, ls⟩ ⟨hP, hD, hS, hl⟩ hf
    dsimp only at hP hD hS hl hf ⊢
    rw [hx5] at hf
    have hl : lv_has ls 5 [(0, .ref (ad 0 0)), (1, .int a1), (2, .int a2), (3, .ref (ad 24 0))] := hl
    obtain ⟨q9, hq9, eq9⟩ := at_24 (ad := ad) (ca := ca) (σ := σ3) hm3
    refine va_last (D := (dC, dI)) (cl := kCl) (pc := 16) hx hb (hK.2 24 0 .long hm3 rfl) hP hD hS q9 0 eq9 rfl (vp_in_lit 0 1 (by decide)) dL_out_16 (fun H locs hP hD hS => ?_)
    obtain ⟨σ8, hσ8, hf⟩ := lt_9 hf
    obtain ⟨hP, hD⟩ := w9_rL 24 rfl hN hq9 hσ8 (pr_24) hP hD
    have hC : clo dom σ8.2.2 := by rw [hσ8]; exact hC
    refine lv_goto (pc := 17) (tgt := 24) hx hb dL_out_17 rfl ?_
    refine lv_iconst (pc := 24) (v := 0) hx hb dL_out_24 (by decide) ?_
    obtain ⟨h8, h9⟩ := Prod.mk.inj (Option.some.inj hf)
    subst h9
    refine W.widen (k := 1) (n := 6) (Nat.le_of_ble_eq_true rfl) (Nat.le_of_ble_eq_true rfl) ?_
    exact W.iret (pc := 25) hx hb hr (fun t ht hW => ⟨⟨_, (), rfl, h8, by rw [ht]; exact hP, hD, hC⟩, hS.F ht⟩) hS.2.2 dL_out_25
def L_undo (n : Nat) (σ : hT) (a1 : Int32) (a2 : Int32) : Option (Int32 × hT) := Option.bind (V_undo n σ a1 a2) fun ⟨y2o, σ3⟩ => cx9 y2o (some (1, σ3)) fun y2 => lt9 (α := Int64 → Option (Int32 × hT)) (fun (s6 : Int64) => lt9 (sL σ3 24 0 0 s6) fun σ8 => some (0, σ8)) fun x5 => if y2 = 0 then x5 0 else x5 1
set_option maxHeartbeats 4000000 in
set_option maxRecDepth 100000 in
theorem t_L_undo (l : Launch) (dC : Nat → ClassId) (dI : Nat → Nat → Nat) (ad : Nat → Nat → Nat) (ca : Nat → Nat → ClassId) (dom : List (Nat × Nat)) (sz : Nat) (n : Nat) (σ : hT) (a1 : Int32) (a2 : Int32) (hm0 : (0, 0) ∈ dom) (hm3 : (24, 0) ∈ dom) (hN : dom.Nodup) (hC : clo dom σ.2.2) (hfl : l.stackTraces = false) (ρ : Int32) (σ' : hT) (hf : L_undo n σ a1 a2 = some (ρ, σ')) : Met l yL_undo (.codeWith yL_undo cL_undo 5 (some .int) [(0, 17, 20, 13)] :: aw) ({ frames := 8, cells := 1, slots := 6, locals := 148 }) (hX (dC, dI) sz ad ca dom σ [.ref (ad 0 0), .int a1, .int a2, .ref (ad 24 0)]) (va_Qi (fun r (_ : Unit) => r = ρ) (fun _ t => hB (dC, dI) (va_A (w9 ad ca dom σ) sz) ad ca dom σ' t) (va_A (w9 ad ca dom σ) sz)) 1 6 (va_A (w9 ad ca dom σ) sz) := by
  refine va_MetW (hh := [(0, 17, 20, 13)]) (cc := cL_undo) (maxL := 5) (ret := (some .int)) (by decide) rfl ?_
  intro p e s m args below meth c s₁ B hml hv
  obtain ⟨rfl, hv⟩ := hv
  obtain ⟨m9, meth9, c9, hn9, g1, g2, -, -, g6, -⟩ := Cond.codeWith_spec (atoms_spec (ws := (.codeWith yL_undo cL_undo 5 (some .int) [(0, 17, 20, 13)] :: aw)) B.pre _ List.mem_cons_self)
  cases Option.some.inj (hn9.symm.trans B.named)
  cases Option.some.inj (g1.symm.trans B.method)
  cases Option.some.inj (g2.symm.trans (Stand.of_body B).code)
  have htab := tab1 g6
  have hx := B.exec
  have hb := B.bytes
  have hr := B.returns
  have hts : ∀ w ∈ aw, w.before _ s = true := fun w h => atoms_spec (ws := (.codeWith yL_undo cL_undo 5 (some .int) [(0, 17, 20, 13)] :: aw)) B.pre w (List.mem_cons_of_mem _ h)
  have hown : s.vm.findClass RL = some m.cls := findClass_of_methodNamed B.named
  have hlocks := B.notSynchronized
  obtain ⟨hsz, hP, hK, hD0, hG, hE⟩ := hv
  subst hsz
  have hD := hD0.self (sz := s.heap.size)
  generalize hAe : va_A (w9 ad ca dom σ) s.heap.size = A at hD ⊢
  have hSA : ∀ q : Nat, q < s.heap.size → A q → xS ad dom q := fun q h z => by rw [← hAe] at z; exact w9_xS z h
  have hA : ∀ q : Nat, s.heap.size ≤ q → A q := fun q h => by rw [← hAe]; exact Or.inr h
  obtain ⟨H, hH⟩ : ∃ H, H = s.heap := ⟨_, rfl⟩
  have hS : va_S A s.heap H [] := by rw [hH]; exact va_S.rf
  rw [← hH] at hP ⊢
  unfold L_undo at hf
  have hl := lv_entry ([.ref (ad 0 0), .int a1, .int a2, .ref (ad 24 0)]) (n := 5) (Nat.le_of_ble_eq_true rfl)
  rw [lg_entry_eq]
  generalize (lg_sl ([.ref (ad 0 0), .int a1, .int a2, .ref (ad 24 0)]) ++ List.replicate (5 - (lg_sl ([.ref (ad 0 0), .int a1, .int a2, .ref (ad 24 0)])).length) Slot.unset).toArray = ls at hl ⊢
  have hl : lv_has ls 5 [(0, .ref (ad 0 0)), (1, .int a1), (2, .int a2), (3, .ref (ad 24 0))] := hl
  refine lv_aload_n (pc := 0) hx hb dL_undo_0 rfl (lv_at hl 3 rfl) ?_
  refine lv_iconst (pc := 1) (v := 0) hx hb dL_undo_1 (by decide) ?_
  refine lv_aload_n (pc := 2) hx hb dL_undo_2 rfl (lv_at hl 0 rfl) ?_
  refine lv_iload_n (pc := 3) hx hb dL_undo_3 rfl (lv_at hl 1 rfl) ?_
  refine lv_iload_n (pc := 4) hx hb dL_undo_4 rfl (lv_at hl 2 rfl) ?_
  obtain ⟨q1, hq1, eq1⟩ := at_0 (ad := ad) (ca := ca) (σ := σ) hm0
  obtain ⟨⟨y2o, σ3⟩, hy2, hf⟩ := ob hf
  rcases y2o with _ | y2
  · replace hf := cx_n hf
    have hFc := w9_free hD hS hA
    refine tCatchV (pc := 5) (As := [.int a1, .int a2]) (rest := [.int 0, .ref (ad 24 0)]) (C := RV) (E := nIS) (name := nIS) ⟨hx, hb, hml, hown, hts⟩ (x_V_undo l dC dI ad ca dom H.size n σ a1 a2 hm0 hN hC σ3 hfl hy2) (cwV 2 hts (gV wd_710 wd_711 wd_712 wd_254 wd_709) rfl rfl rfl (by decide +kernel) ⟨Nat.le_of_ble_eq_true rfl, Nat.le_of_ble_eq_true rfl⟩) ⟨hX_blind, va_recv (q := (RV, TV, 9)) (q0 := q1) (ci := 0) hK.1 hP rfl eq1, hX_pre hP hK hD hG hE hS hSA⟩ rfl hl.1 rfl (lv_room (Nat.le_of_ble_eq_true rfl)) dL_undo_5 ⟨Nat.le_of_ble_eq_true rfl, Nat.le_of_ble_eq_true rfl⟩ htab (by decide) (by decide) (hts _ wd_704) (va_Nw.use rfl hE.2.1) (fun q4 L9 H1 hq9 hz9 hL9 hB9 hk9 => ?_)
    obtain ⟨hP, hD, hC⟩ := hB9
    replace hD := hD.weaken (fun _ _ _ h => hFc _ h)
    have hS := cS9 hS hz9 hL9 hFc hk9
    generalize H1 = H at hP hS ⊢
    refine W.widen (k := 1) (n := 6) (Nat.le_of_ble_eq_true rfl) (Nat.le_of_ble_eq_true rfl) ?_
    refine lv_astore (pc := 20) hx hb dL_undo_20 hl (by decide) rfl (fun ls hl => ?_)
    have hl : lv_has ls 5 [(4, .ref q4), (0, .ref (ad 0 0)), (1, .int a1), (2, .int a2), (3, .ref (ad 24 0))] := hl
    refine lv_iconst (pc := 22) (v := 1) hx hb dL_undo_22 (by decide) ?_
    obtain ⟨h8, h9⟩ := Prod.mk.inj (Option.some.inj hf)
    subst h9
    exact W.iret (pc := 23) hx hb hr (fun t ht hW => ⟨⟨_, (), rfl, h8, by rw [ht]; exact hP, hD, hC⟩, hS.F ht⟩) hS.2.2 dL_undo_23
  replace hf := cx_s hf
  have hFc := w9_free hD hS hA
  refine va_calli (pc := 5) (va_runV (As := [.int a1, .int a2]) (rest := [.int 0, .ref (ad 24 0)]) ⟨hx, hb, hml, hown, hts⟩ (t_V_undo l dC dI ad ca dom H.size n σ a1 a2 hm0 hN hC y2 σ3 hy2) (cwV 2 hts (gV wd_710 wd_711 wd_712 wd_254 wd_709) rfl rfl rfl (by decide +kernel) ⟨Nat.le_of_ble_eq_true rfl, Nat.le_of_ble_eq_true rfl⟩) ⟨hW_blind, va_recv (q := (RV, TV, 9)) (q0 := q1) (ci := 0) hK.1 hP rfl eq1, hW_pre hP hK hD hG⟩ rfl rfl hl.1 rfl (lv_room (Nat.le_of_ble_eq_true rfl)) dL_undo_5 ⟨Nat.le_of_ble_eq_true rfl, Nat.le_of_ble_eq_true rfl⟩) hS (fun q _ h => hFc q h) hFc (fun r9 u t H1 locs ht hvm hr9 hB hz1 hk1 hS => ?_)
  obtain ⟨hP, hD, hC⟩ := hB
  rw [ht] at hP
  replace hD := hD.weaken (fun _ _ _ h => hFc _ h)
  generalize H1 = H at hP hS ⊢
  refine W.eq (g2 := F0 m 8 ls [.int y2, .int 0, .ref (ad 24 0)]) (by rw [hr9]) ?_
  obtain ⟨x5, hx5, hf⟩ := lt_9 hf
  refine jnF (τ := (Int64) × (Heap) × (List Loc) × (Array Slot)) (fun pc st z => W p l e _ s m _ below meth c z.2.1 z.2.2.1 0 0 _ (F0 m pc z.2.2.2 st)) (pc0 := 8) (st0 := [.int y2, .int 0, .ref (ad 24 0)]) (z0 := (0, H, _, ls)) 16 (fun z => [.long z.1, .int 0, .ref (ad 24 0)]) (fun z => va_P (dC, dI) kCl (w9 ad ca dom (σ3)) z.2.1 ∧ va_D A (w9 ad ca dom (σ3)) ∧ va_S A s.heap z.2.1 z.2.2.1 ∧ lv_has z.2.2.2 5 [(0, .ref (ad 0 0)), (1, .int a1), (2, .int a2), (3, .ref (ad 24 0))]) (fun z => x5 z.1) (ρ, σ') ?_ ?_
  · intro hJx5
    dsimp only at hJx5 ⊢
    refine lv_if_eq (pc := 8) (tgt := 15) hx hb dL_undo_8 rfl (fun h7 => ?_) (fun h7 => ?_)
    · replace hf := ite_t h7 hf
      refine lv_lconst (pc := 15) (v := 0) hx hb dL_undo_15 (by decide) ?_
      have hl := lv_sub hl (l' := [(0, .ref (ad 0 0)), (1, .int a1), (2, .int a2), (3, .ref (ad 24 0))]) [0, 1, 2, 3] rfl
      exact hJx5 (0, H, _, ls) ⟨hP, hD, hS, hl⟩ hf
    · replace hf := ite_f h7 hf
      refine lv_lconst (pc := 11) (v := 1) hx hb dL_undo_11 (by decide) ?_
      refine lv_goto (pc := 12) (tgt := 16) hx hb dL_undo_12 rfl ?_
      have hl := lv_sub hl (l' := [(0, .ref (ad 0 0)), (1, .int a1), (2, .int a2), (3, .ref (ad 24 0))]) [0, 1, 2, 3] rfl
      exact hJx5 (1, H, _, ls) ⟨hP, hD, hS, hl⟩ hf
  · rintro ⟨s6, H, locs, ls⟩ ⟨hP, hD, hS, hl⟩ hf
    dsimp only at hP hD hS hl hf ⊢
    rw [hx5] at hf
    have hl : lv_has ls 5 [(0, .ref (ad 0 0)), (1, .int a1), (2, .int a2), (3, .ref (ad 24 0))] := hl
    obtain ⟨q9, hq9, eq9⟩ := at_24 (ad := ad) (ca := ca) (σ := σ3) hm3
    refine va_last (D := (dC, dI)) (cl := kCl) (pc := 16) hx hb (hK.2 24 0 .long hm3 rfl) hP hD hS q9 0 eq9 rfl (vp_in_lit 0 1 (by decide)) dL_undo_16 (fun H locs hP hD hS => ?_)
    obtain ⟨σ8, hσ8, hf⟩ := lt_9 hf
    obtain ⟨hP, hD⟩ := w9_rL 24 rfl hN hq9 hσ8 (pr_24) hP hD
    have hC : clo dom σ8.2.2 := by rw [hσ8]; exact hC
    refine lv_goto (pc := 17) (tgt := 24) hx hb dL_undo_17 rfl ?_
    refine lv_iconst (pc := 24) (v := 0) hx hb dL_undo_24 (by decide) ?_
    obtain ⟨h8, h9⟩ := Prod.mk.inj (Option.some.inj hf)
    subst h9
    refine W.widen (k := 1) (n := 6) (Nat.le_of_ble_eq_true rfl) (Nat.le_of_ble_eq_true rfl) ?_
    exact W.iret (pc := 25) hx hb hr (fun t ht hW => ⟨⟨_, (), rfl, h8, by rw [ht]; exact hP, hD, hC⟩, hS.F ht⟩) hS.2.2 dL_undo_25
def L_put (σ : hT) (a1 : Int32) (a2 : Int32) (a3 : Int32) (a4 : Int32) : Option (Int32 × hT) := Option.bind (V_put σ a1 a2 a3 a4) fun ⟨y2o, σ3⟩ => cx9 y2o (some (1, σ3)) fun y2 => lt9 (α := Int64 → Option (Int32 × hT)) (fun (s6 : Int64) => lt9 (sL σ3 24 0 0 s6) fun σ8 => some (0, σ8)) fun x5 => if y2 = 0 then x5 0 else x5 1
set_option maxHeartbeats 4000000 in
set_option maxRecDepth 100000 in
theorem t_L_put (l : Launch) (dC : Nat → ClassId) (dI : Nat → Nat → Nat) (ad : Nat → Nat → Nat) (ca : Nat → Nat → ClassId) (dom : List (Nat × Nat)) (sz : Nat) (σ : hT) (a1 : Int32) (a2 : Int32) (a3 : Int32) (a4 : Int32) (hm0 : (0, 0) ∈ dom) (hm5 : (24, 0) ∈ dom) (hN : dom.Nodup) (hC : clo dom σ.2.2) (hfl : l.stackTraces = false) (ρ : Int32) (σ' : hT) (hf : L_put σ a1 a2 a3 a4 = some (ρ, σ')) : Met l yL_put (.codeWith yL_put cL_put 7 (some .int) [(0, 21, 24, 13)] :: aw) ({ frames := 8, cells := 1, slots := 6, locals := 127 }) (hX (dC, dI) sz ad ca dom σ [.ref (ad 0 0), .int a1, .int a2, .int a3, .int a4, .ref (ad 24 0)]) (va_Qi (fun r (_ : Unit) => r = ρ) (fun _ t => hB (dC, dI) (va_A (w9 ad ca dom σ) sz) ad ca dom σ' t) (va_A (w9 ad ca dom σ) sz)) 1 6 (va_A (w9 ad ca dom σ) sz) := by
  refine va_MetW (hh := [(0, 21, 24, 13)]) (cc := cL_put) (maxL := 7) (ret := (some .int)) (by decide) rfl ?_
  intro p e s m args below meth c s₁ B hml hv
  obtain ⟨rfl, hv⟩ := hv
  obtain ⟨m9, meth9, c9, hn9, g1, g2, -, -, g6, -⟩ := Cond.codeWith_spec (atoms_spec (ws := (.codeWith yL_put cL_put 7 (some .int) [(0, 21, 24, 13)] :: aw)) B.pre _ List.mem_cons_self)
  cases Option.some.inj (hn9.symm.trans B.named)
  cases Option.some.inj (g1.symm.trans B.method)
  cases Option.some.inj (g2.symm.trans (Stand.of_body B).code)
  have htab := tab1 g6
  have hx := B.exec
  have hb := B.bytes
  have hr := B.returns
  have hts : ∀ w ∈ aw, w.before _ s = true := fun w h => atoms_spec (ws := (.codeWith yL_put cL_put 7 (some .int) [(0, 21, 24, 13)] :: aw)) B.pre w (List.mem_cons_of_mem _ h)
  have hown : s.vm.findClass RL = some m.cls := findClass_of_methodNamed B.named
  have hlocks := B.notSynchronized
  obtain ⟨hsz, hP, hK, hD0, hG, hE⟩ := hv
  subst hsz
  have hD := hD0.self (sz := s.heap.size)
  generalize hAe : va_A (w9 ad ca dom σ) s.heap.size = A at hD ⊢
  have hSA : ∀ q : Nat, q < s.heap.size → A q → xS ad dom q := fun q h z => by rw [← hAe] at z; exact w9_xS z h
  have hA : ∀ q : Nat, s.heap.size ≤ q → A q := fun q h => by rw [← hAe]; exact Or.inr h
  obtain ⟨H, hH⟩ : ∃ H, H = s.heap := ⟨_, rfl⟩
  have hS : va_S A s.heap H [] := by rw [hH]; exact va_S.rf
  rw [← hH] at hP ⊢
  unfold L_put at hf
  have hl := lv_entry ([.ref (ad 0 0), .int a1, .int a2, .int a3, .int a4, .ref (ad 24 0)]) (n := 7) (Nat.le_of_ble_eq_true rfl)
  rw [lg_entry_eq]
  generalize (lg_sl ([.ref (ad 0 0), .int a1, .int a2, .int a3, .int a4, .ref (ad 24 0)]) ++ List.replicate (7 - (lg_sl ([.ref (ad 0 0), .int a1, .int a2, .int a3, .int a4, .ref (ad 24 0)])).length) Slot.unset).toArray = ls at hl ⊢
  have hl : lv_has ls 7 [(0, .ref (ad 0 0)), (1, .int a1), (2, .int a2), (3, .int a3), (4, .int a4), (5, .ref (ad 24 0))] := hl
  refine lv_aload (pc := 0) hx hb dL_put_0 (lv_at hl 5 rfl) ?_
  refine lv_iconst (pc := 2) (v := 0) hx hb dL_put_2 (by decide) ?_
  refine lv_aload_n (pc := 3) hx hb dL_put_3 rfl (lv_at hl 0 rfl) ?_
  refine lv_iload_n (pc := 4) hx hb dL_put_4 rfl (lv_at hl 1 rfl) ?_
  refine lv_iload_n (pc := 5) hx hb dL_put_5 rfl (lv_at hl 2 rfl) ?_
  refine lv_iload_n (pc := 6) hx hb dL_put_6 rfl (lv_at hl 3 rfl) ?_
  refine lv_iload (pc := 7) hx hb dL_put_7 (lv_at hl 4 rfl) ?_
  obtain ⟨q1, hq1, eq1⟩ := at_0 (ad := ad) (ca := ca) (σ := σ) hm0
  obtain ⟨⟨y2o, σ3⟩, hy2, hf⟩ := ob hf
  rcases y2o with _ | y2
  · replace hf := cx_n hf
    have hFc := w9_free hD hS hA
    refine tCatchV (pc := 9) (As := [.int a1, .int a2, .int a3, .int a4]) (rest := [.int 0, .ref (ad 24 0)]) (C := RV) (E := nIS) (name := nIS) ⟨hx, hb, hml, hown, hts⟩ (x_V_put l dC dI ad ca dom H.size σ a1 a2 a3 a4 hm0 hN hC σ3 hfl hy2) (cwV 4 hts (gV wd_714 wd_715 wd_716 wd_254 wd_713) rfl rfl rfl (by decide +kernel) ⟨Nat.le_of_ble_eq_true rfl, Nat.le_of_ble_eq_true rfl⟩) ⟨hX_blind, va_recv (q := (RV, TV, 9)) (q0 := q1) (ci := 0) hK.1 hP rfl eq1, hX_pre hP hK hD hG hE hS hSA⟩ rfl hl.1 rfl (lv_room (Nat.le_of_ble_eq_true rfl)) dL_put_9 ⟨Nat.le_of_ble_eq_true rfl, Nat.le_of_ble_eq_true rfl⟩ htab (by decide) (by decide) (hts _ wd_704) (va_Nw.use rfl hE.2.1) (fun q4 L9 H1 hq9 hz9 hL9 hB9 hk9 => ?_)
    obtain ⟨hP, hD, hC⟩ := hB9
    replace hD := hD.weaken (fun _ _ _ h => hFc _ h)
    have hS := cS9 hS hz9 hL9 hFc hk9
    generalize H1 = H at hP hS ⊢
    refine W.widen (k := 1) (n := 6) (Nat.le_of_ble_eq_true rfl) (Nat.le_of_ble_eq_true rfl) ?_
    refine lv_astore (pc := 24) hx hb dL_put_24 hl (by decide) rfl (fun ls hl => ?_)
    have hl : lv_has ls 7 [(6, .ref q4), (0, .ref (ad 0 0)), (1, .int a1), (2, .int a2), (3, .int a3), (4, .int a4), (5, .ref (ad 24 0))] := hl
    refine lv_iconst (pc := 26) (v := 1) hx hb dL_put_26 (by decide) ?_
    obtain ⟨h8, h9⟩ := Prod.mk.inj (Option.some.inj hf)
    subst h9
    exact W.iret (pc := 27) hx hb hr (fun t ht hW => ⟨⟨_, (), rfl, h8, by rw [ht]; exact hP, hD, hC⟩, hS.F ht⟩) hS.2.2 dL_put_27
  replace hf := cx_s hf
  have hFc := w9_free hD hS hA
  refine va_calli (pc := 9) (va_runV (As := [.int a1, .int a2, .int a3, .int a4]) (rest := [.int 0, .ref (ad 24 0)]) ⟨hx, hb, hml, hown, hts⟩ (t_V_put l dC dI ad ca dom H.size σ a1 a2 a3 a4 hm0 hN hC y2 σ3 hy2) (cwV 4 hts (gV wd_714 wd_715 wd_716 wd_254 wd_713) rfl rfl rfl (by decide +kernel) ⟨Nat.le_of_ble_eq_true rfl, Nat.le_of_ble_eq_true rfl⟩) ⟨hW_blind, va_recv (q := (RV, TV, 9)) (q0 := q1) (ci := 0) hK.1 hP rfl eq1, hW_pre hP hK hD hG⟩ rfl rfl hl.1 rfl (lv_room (Nat.le_of_ble_eq_true rfl)) dL_put_9 ⟨Nat.le_of_ble_eq_true rfl, Nat.le_of_ble_eq_true rfl⟩) hS (fun q _ h => hFc q h) hFc (fun r9 u t H1 locs ht hvm hr9 hB hz1 hk1 hS => ?_)
  obtain ⟨hP, hD, hC⟩ := hB
  rw [ht] at hP
  replace hD := hD.weaken (fun _ _ _ h => hFc _ h)
  generalize H1 = H at hP hS ⊢
  refine W.eq (g2 := F0 m 12 ls [.int y2, .int 0, .ref (ad 24 0)]) (by rw [hr9]) ?_
  obtain ⟨x5, hx5, hf⟩ := lt_9 hf
  refine jnF (τ := (Int64) × (Heap) × (List Loc) × (Array Slot)) (fun pc st z => W p l e _ s m _ below meth c z.2.1 z.2.2.1 0 0 _ (F0 m pc z.2.2.2 st)) (pc0 := 12) (st0 := [.int y2, .int 0, .ref (ad 24 0)]) (z0 := (0, H, _, ls)) 20 (fun z => [.long z.1, .int 0, .ref (ad 24 0)]) (fun z => va_P (dC, dI) kCl (w9 ad ca dom (σ3)) z.2.1 ∧ va_D A (w9 ad ca dom (σ3)) ∧ va_S A s.heap z.2.1 z.2.2.1 ∧ lv_has z.2.2.2 7 [(0, .ref (ad 0 0)), (1, .int a1), (2, .int a2), (3, .int a3), (4, .int a4), (5, .ref (ad 24 0))]) (fun z => x5 z.1) (ρ, σ') ?_ ?_
  · intro hJx5
    dsimp only at hJx5 ⊢
    refine lv_if_eq (pc := 12) (tgt := 19) hx hb dL_put_12 rfl (fun h7 => ?_) (fun h7 => ?_)
    · replace hf := ite_t h7 hf
      refine lv_lconst (pc := 19) (v := 0) hx hb dL_put_19 (by decide) ?_
      have hl := lv_sub hl (l' := [(0, .ref (ad 0 0)), (1, .int a1), (2, .int a2), (3, .int a3), (4, .int a4), (5, .ref (ad 24 0))]) [0, 1, 2, 3, 4, 5] rfl
      exact hJx5 (0, H, _, ls) ⟨hP, hD, hS, hl⟩ hf
    · replace hf := ite_f h7 hf
      refine lv_lconst (pc := 15) (v := 1) hx hb dL_put_15 (by decide) ?_
      refine lv_goto (pc := 16) (tgt := 20) hx hb dL_put_16 rfl ?_
      have hl := lv_sub hl (l' := [(0, .ref (ad 0 0)), (1, .int a1), (2, .int a2), (3, .int a3), (4, .int a4), (5, .ref (ad 24 0))]) [0, 1, 2, 3, 4, 5] rfl
      exact hJx5 (1, H, _, ls) ⟨hP, hD, hS, hl⟩ hf
  · rintro ⟨s6, H, locs, ls⟩ ⟨hP, hD, hS, hl⟩ hf
    dsimp only at hP hD hS hl hf ⊢
    rw [hx5] at hf
    have hl : lv_has ls 7 [(0, .ref (ad 0 0)), (1, .int a1), (2, .int a2), (3, .int a3), (4, .int a4), (5, .ref (ad 24 0))] := hl
    obtain ⟨q9, hq9, eq9⟩ := at_24 (ad := ad) (ca := ca) (σ := σ3) hm5
    refine va_last (D := (dC, dI)) (cl := kCl) (pc := 20) hx hb (hK.2 24 0 .long hm5 rfl) hP hD hS q9 0 eq9 rfl (vp_in_lit 0 1 (by decide)) dL_put_20 (fun H locs hP hD hS => ?_)
    obtain ⟨σ8, hσ8, hf⟩ := lt_9 hf
    obtain ⟨hP, hD⟩ := w9_rL 24 rfl hN hq9 hσ8 (pr_24) hP hD
    have hC : clo dom σ8.2.2 := by rw [hσ8]; exact hC
    refine lv_goto (pc := 21) (tgt := 28) hx hb dL_put_21 rfl ?_
    refine lv_iconst (pc := 28) (v := 0) hx hb dL_put_28 (by decide) ?_
    obtain ⟨h8, h9⟩ := Prod.mk.inj (Option.some.inj hf)
    subst h9
    refine W.widen (k := 1) (n := 6) (Nat.le_of_ble_eq_true rfl) (Nat.le_of_ble_eq_true rfl) ?_
    exact W.iret (pc := 29) hx hb hr (fun t ht hW => ⟨⟨_, (), rfl, h8, by rw [ht]; exact hP, hD, hC⟩, hS.F ht⟩) hS.2.2 dL_put_29
def L_resize (n : Nat) (σ : hT) (a1 : Int32) (a2 : Int32) (a3 : Int32) : Option (Int32 × hT) := Option.bind (V_resize n σ a1 a2 a3) fun ⟨y2o, σ3⟩ => cx9 y2o (some (1, σ3)) fun y2 => lt9 (α := Int64 → Option (Int32 × hT)) (fun (s6 : Int64) => lt9 (sL σ3 24 0 0 s6) fun σ8 => some (0, σ8)) fun x5 => if y2 = 0 then x5 0 else x5 1
set_option maxHeartbeats 4000000 in
set_option maxRecDepth 100000 in
theorem t_L_resize (l : Launch) (dC : Nat → ClassId) (dI : Nat → Nat → Nat) (ad : Nat → Nat → Nat) (ca : Nat → Nat → ClassId) (dom : List (Nat × Nat)) (sz : Nat) (n : Nat) (σ : hT) (a1 : Int32) (a2 : Int32) (a3 : Int32) (hm0 : (0, 0) ∈ dom) (hm4 : (24, 0) ∈ dom) (hN : dom.Nodup) (hC : clo dom σ.2.2) (hfl : l.stackTraces = false) (ρ : Int32) (σ' : hT) (hf : L_resize n σ a1 a2 a3 = some (ρ, σ')) : Met l yL_resize (.codeWith yL_resize cL_resize 6 (some .int) [(0, 19, 22, 13)] :: aw) ({ frames := 8, cells := 1, slots := 6, locals := 126 }) (hX (dC, dI) sz ad ca dom σ [.ref (ad 0 0), .int a1, .int a2, .int a3, .ref (ad 24 0)]) (va_Qi (fun r (_ : Unit) => r = ρ) (fun _ t => hB (dC, dI) (va_A (w9 ad ca dom σ) sz) ad ca dom σ' t) (va_A (w9 ad ca dom σ) sz)) 1 6 (va_A (w9 ad ca dom σ) sz) := by
  refine va_MetW (hh := [(0, 19, 22, 13)]) (cc := cL_resize) (maxL := 6) (ret := (some .int)) (by decide) rfl ?_
  intro p e s m args below meth c s₁ B hml hv
  obtain ⟨rfl, hv⟩ := hv
  obtain ⟨m9, meth9, c9, hn9, g1, g2, -, -, g6, -⟩ := Cond.codeWith_spec (atoms_spec (ws := (.codeWith yL_resize cL_resize 6 (some .int) [(0, 19, 22, 13)] :: aw)) B.pre _ List.mem_cons_self)
  cases Option.some.inj (hn9.symm.trans B.named)
  cases Option.some.inj (g1.symm.trans B.method)
  cases Option.some.inj (g2.symm.trans (Stand.of_body B).code)
  have htab := tab1 g6
  have hx := B.exec
  have hb := B.bytes
  have hr := B.returns
  have hts : ∀ w ∈ aw, w.before _ s = true := fun w h => atoms_spec (ws := (.codeWith yL_resize cL_resize 6 (some .int) [(0, 19, 22, 13)] :: aw)) B.pre w (List.mem_cons_of_mem _ h)
  have hown : s.vm.findClass RL = some m.cls := findClass_of_methodNamed B.named
  have hlocks := B.notSynchronized
  obtain ⟨hsz, hP, hK, hD0, hG, hE⟩ := hv
  subst hsz
  have hD := hD0.self (sz := s.heap.size)
  generalize hAe : va_A (w9 ad ca dom σ) s.heap.size = A at hD ⊢
  have hSA : ∀ q : Nat, q < s.heap.size → A q → xS ad dom q := fun q h z => by rw [← hAe] at z; exact w9_xS z h
  have hA : ∀ q : Nat, s.heap.size ≤ q → A q := fun q h => by rw [← hAe]; exact Or.inr h
  obtain ⟨H, hH⟩ : ∃ H, H = s.heap := ⟨_, rfl⟩
  have hS : va_S A s.heap H [] := by rw [hH]; exact va_S.rf
  rw [← hH] at hP ⊢
  unfold L_resize at hf
  have hl := lv_entry ([.ref (ad 0 0), .int a1, .int a2, .int a3, .ref (ad 24 0)]) (n := 6) (Nat.le_of_ble_eq_true rfl)
  rw [lg_entry_eq]
  generalize (lg_sl ([.ref (ad 0 0), .int a1, .int a2, .int a3, .ref (ad 24 0)]) ++ List.replicate (6 - (lg_sl ([.ref (ad 0 0), .int a1, .int a2, .int a3, .ref (ad 24 0)])).length) Slot.unset).toArray = ls at hl ⊢
  have hl : lv_has ls 6 [(0, .ref (ad 0 0)), (1, .int a1), (2, .int a2), (3, .int a3), (4, .ref (ad 24 0))] := hl
  refine lv_aload (pc := 0) hx hb dL_resize_0 (lv_at hl 4 rfl) ?_
  refine lv_iconst (pc := 2) (v := 0) hx hb dL_resize_2 (by decide) ?_
  refine lv_aload_n (pc := 3) hx hb dL_resize_3 rfl (lv_at hl 0 rfl) ?_
  refine lv_iload_n (pc := 4) hx hb dL_resize_4 rfl (lv_at hl 1 rfl) ?_
  refine lv_iload_n (pc := 5) hx hb dL_resize_5 rfl (lv_at hl 2 rfl) ?_
  refine lv_iload_n (pc := 6) hx hb dL_resize_6 rfl (lv_at hl 3 rfl) ?_
  obtain ⟨q1, hq1, eq1⟩ := at_0 (ad := ad) (ca := ca) (σ := σ) hm0
  obtain ⟨⟨y2o, σ3⟩, hy2, hf⟩ := ob hf
  rcases y2o with _ | y2
  · replace hf := cx_n hf
    have hFc := w9_free hD hS hA
    refine tCatchV (pc := 7) (As := [.int a1, .int a2, .int a3]) (rest := [.int 0, .ref (ad 24 0)]) (C := RV) (E := nIS) (name := nIS) ⟨hx, hb, hml, hown, hts⟩ (x_V_resize l dC dI ad ca dom H.size n σ a1 a2 a3 hm0 hN hC σ3 hfl hy2) (cwV 3 hts (gV wd_718 wd_719 wd_720 wd_254 wd_717) rfl rfl rfl (by decide +kernel) ⟨Nat.le_of_ble_eq_true rfl, Nat.le_of_ble_eq_true rfl⟩) ⟨hX_blind, va_recv (q := (RV, TV, 9)) (q0 := q1) (ci := 0) hK.1 hP rfl eq1, hX_pre hP hK hD hG hE hS hSA⟩ rfl hl.1 rfl (lv_room (Nat.le_of_ble_eq_true rfl)) dL_resize_7 ⟨Nat.le_of_ble_eq_true rfl, Nat.le_of_ble_eq_true rfl⟩ htab (by decide) (by decide) (hts _ wd_704) (va_Nw.use rfl hE.2.1) (fun q4 L9 H1 hq9 hz9 hL9 hB9 hk9 => ?_)
    obtain ⟨hP, hD, hC⟩ := hB9
    replace hD := hD.weaken (fun _ _ _ h => hFc _ h)
    have hS := cS9 hS hz9 hL9 hFc hk9
    generalize H1 = H at hP hS ⊢
    refine W.widen (k := 1) (n := 6) (Nat.le_of_ble_eq_true rfl) (Nat.le_of_ble_eq_true rfl) ?_
    refine lv_astore (pc := 22) hx hb dL_resize_22 hl (by decide) rfl (fun ls hl => ?_)
    have hl : lv_has ls 6 [(5, .ref q4), (0, .ref (ad 0 0)), (1, .int a1), (2, .int a2), (3, .int a3), (4, .ref (ad 24 0))] := hl
    refine lv_iconst (pc := 24) (v := 1) hx hb dL_resize_24 (by decide) ?_
    obtain ⟨h8, h9⟩ := Prod.mk.inj (Option.some.inj hf)
    subst h9
    exact W.iret (pc := 25) hx hb hr (fun t ht hW => ⟨⟨_, (), rfl, h8, by rw [ht]; exact hP, hD, hC⟩, hS.F ht⟩) hS.2.2 dL_resize_25
  replace hf := cx_s hf
  have hFc := w9_free hD hS hA
  refine va_calli (pc := 7) (va_runV (As := [.int a1, .int a2, .int a3]) (rest := [.int 0, .ref (ad 24 0)]) ⟨hx, hb, hml, hown, hts⟩ (t_V_resize l dC dI ad ca dom H.size n σ a1 a2 a3 hm0 hN hC y2 σ3 hy2) (cwV 3 hts (gV wd_718 wd_719 wd_720 wd_254 wd_717) rfl rfl rfl (by decide +kernel) ⟨Nat.le_of_ble_eq_true rfl, Nat.le_of_ble_eq_true rfl⟩) ⟨hW_blind, va_recv (q := (RV, TV, 9)) (q0 := q1) (ci := 0) hK.1 hP rfl eq1, hW_pre hP hK hD hG⟩ rfl rfl hl.1 rfl (lv_room (Nat.le_of_ble_eq_true rfl)) dL_resize_7 ⟨Nat.le_of_ble_eq_true rfl, Nat.le_of_ble_eq_true rfl⟩) hS (fun q _ h => hFc q h) hFc (fun r9 u t H1 locs ht hvm hr9 hB hz1 hk1 hS => ?_)
  obtain ⟨hP, hD, hC⟩ := hB
  rw [ht] at hP
  replace hD := hD.weaken (fun _ _ _ h => hFc _ h)
  generalize H1 = H at hP hS ⊢
  refine W.eq (g2 := F0 m 10 ls [.int y2, .int 0, .ref (ad 24 0)]) (by rw [hr9]) ?_
  obtain ⟨x5, hx5, hf⟩ := lt_9 hf
  refine jnF (τ := (Int64) × (Heap) × (List Loc) × (Array Slot)) (fun pc st z => W p l e _ s m _ below meth c z.2.1 z.2.2.1 0 0 _ (F0 m pc z.2.2.2 st)) (pc0 := 10) (st0 := [.int y2, .int 0, .ref (ad 24 0)]) (z0 := (0, H, _, ls)) 18 (fun z => [.long z.1, .int 0, .ref (ad 24 0)]) (fun z => va_P (dC, dI) kCl (w9 ad ca dom (σ3)) z.2.1 ∧ va_D A (w9 ad ca dom (σ3)) ∧ va_S A s.heap z.2.1 z.2.2.1 ∧ lv_has z.2.2.2 6 [(0, .ref (ad 0 0)), (1, .int a1), (2, .int a2), (3, .int a3), (4, .ref (ad 24 0))]) (fun z => x5 z.1) (ρ, σ') ?_ ?_
  · intro hJx5
    dsimp only at hJx5 ⊢
    refine lv_if_eq (pc := 10) (tgt := 17) hx hb dL_resize_10 rfl (fun h7 => ?_) (fun h7 => ?_)
    · replace hf := ite_t h7 hf
      refine lv_lconst (pc := 17) (v := 0) hx hb dL_resize_17 (by decide) ?_
      have hl := lv_sub hl (l' := [(0, .ref (ad 0 0)), (1, .int a1), (2, .int a2), (3, .int a3), (4, .ref (ad 24 0))]) [0, 1, 2, 3, 4] rfl
      exact hJx5 (0, H, _, ls) ⟨hP, hD, hS, hl⟩ hf
    · replace hf := ite_f h7 hf
      refine lv_lconst (pc := 13) (v := 1) hx hb dL_resize_13 (by decide) ?_
      refine lv_goto (pc := 14) (tgt := 18) hx hb dL_resize_14 rfl ?_
      have hl := lv_sub hl (l' := [(0, .ref (ad 0 0)), (1, .int a1), (2, .int a2), (3, .int a3), (4, .ref (ad 24 0))]) [0, 1, 2, 3, 4] rfl
      exact hJx5 (1, H, _, ls) ⟨hP, hD, hS, hl⟩ hf
  · rintro ⟨s6, H, locs, ls⟩ ⟨hP, hD, hS, hl⟩ hf
    dsimp only at hP hD hS hl hf ⊢
    rw [hx5] at hf
    have hl : lv_has ls 6 [(0, .ref (ad 0 0)), (1, .int a1), (2, .int a2), (3, .int a3), (4, .ref (ad 24 0))] := hl
    obtain ⟨q9, hq9, eq9⟩ := at_24 (ad := ad) (ca := ca) (σ := σ3) hm4
    refine va_last (D := (dC, dI)) (cl := kCl) (pc := 18) hx hb (hK.2 24 0 .long hm4 rfl) hP hD hS q9 0 eq9 rfl (vp_in_lit 0 1 (by decide)) dL_resize_18 (fun H locs hP hD hS => ?_)
    obtain ⟨σ8, hσ8, hf⟩ := lt_9 hf
    obtain ⟨hP, hD⟩ := w9_rL 24 rfl hN hq9 hσ8 (pr_24) hP hD
    have hC : clo dom σ8.2.2 := by rw [hσ8]; exact hC
    refine lv_goto (pc := 19) (tgt := 26) hx hb dL_resize_19 rfl ?_
    refine lv_iconst (pc := 26) (v := 0) hx hb dL_resize_26 (by decide) ?_
    obtain ⟨h8, h9⟩ := Prod.mk.inj (Option.some.inj hf)
    subst h9
    refine W.widen (k := 1) (n := 6) (Nat.le_of_ble_eq_true rfl) (Nat.le_of_ble_eq_true rfl) ?_
    exact W.iret (pc := 27) hx hb hr (fun t ht hW => ⟨⟨_, (), rfl, h8, by rw [ht]; exact hP, hD, hC⟩, hS.F ht⟩) hS.2.2 dL_resize_27
def L_ref (σ : hT) (a1 : Int32) (a2 : Int32) (a3 : Int32) (a4 : Int32) (a5 : Int32) : Option (Int32 × hT) := Option.bind (V_ref σ a1 a2 a3 a4 a5) fun ⟨y2o, σ3⟩ => cx9 y2o (some (1, σ3)) fun y2 => lt9 (α := Int64 → Option (Int32 × hT)) (fun (s6 : Int64) => lt9 (sL σ3 24 0 0 s6) fun σ8 => some (0, σ8)) fun x5 => if y2 = 0 then x5 0 else x5 1
set_option maxHeartbeats 4000000 in
set_option maxRecDepth 100000 in
theorem t_L_ref (l : Launch) (dC : Nat → ClassId) (dI : Nat → Nat → Nat) (ad : Nat → Nat → Nat) (ca : Nat → Nat → ClassId) (dom : List (Nat × Nat)) (sz : Nat) (σ : hT) (a1 : Int32) (a2 : Int32) (a3 : Int32) (a4 : Int32) (a5 : Int32) (hm0 : (0, 0) ∈ dom) (hm6 : (24, 0) ∈ dom) (hN : dom.Nodup) (hC : clo dom σ.2.2) (hfl : l.stackTraces = false) (ρ : Int32) (σ' : hT) (hf : L_ref σ a1 a2 a3 a4 a5 = some (ρ, σ')) : Met l yL_ref (.codeWith yL_ref cL_ref 8 (some .int) [(0, 23, 26, 13)] :: aw) ({ frames := 8, cells := 1, slots := 6, locals := 128 }) (hX (dC, dI) sz ad ca dom σ [.ref (ad 0 0), .int a1, .int a2, .int a3, .int a4, .int a5, .ref (ad 24 0)]) (va_Qi (fun r (_ : Unit) => r = ρ) (fun _ t => hB (dC, dI) (va_A (w9 ad ca dom σ) sz) ad ca dom σ' t) (va_A (w9 ad ca dom σ) sz)) 1 6 (va_A (w9 ad ca dom σ) sz) := by
  refine va_MetW (hh := [(0, 23, 26, 13)]) (cc := cL_ref) (maxL := 8) (ret := (some .int)) (by decide) rfl ?_
  intro p e s m args below meth c s₁ B hml hv
  obtain ⟨rfl, hv⟩ := hv
  obtain ⟨m9, meth9, c9, hn9, g1, g2, -, -, g6, -⟩ := Cond.codeWith_spec (atoms_spec (ws := (.codeWith yL_ref cL_ref 8 (some .int) [(0, 23, 26, 13)] :: aw)) B.pre _ List.mem_cons_self)
  cases Option.some.inj (hn9.symm.trans B.named)
  cases Option.some.inj (g1.symm.trans B.method)
  cases Option.some.inj (g2.symm.trans (Stand.of_body B).code)
  have htab := tab1 g6
  have hx := B.exec
  have hb := B.bytes
  have hr := B.returns
  have hts : ∀ w ∈ aw, w.before _ s = true := fun w h => atoms_spec (ws := (.codeWith yL_ref cL_ref 8 (some .int) [(0, 23, 26, 13)] :: aw)) B.pre w (List.mem_cons_of_mem _ h)
  have hown : s.vm.findClass RL = some m.cls := findClass_of_methodNamed B.named
  have hlocks := B.notSynchronized
  obtain ⟨hsz, hP, hK, hD0, hG, hE⟩ := hv
  subst hsz
  have hD := hD0.self (sz := s.heap.size)
  generalize hAe : va_A (w9 ad ca dom σ) s.heap.size = A at hD ⊢
  have hSA : ∀ q : Nat, q < s.heap.size → A q → xS ad dom q := fun q h z => by rw [← hAe] at z; exact w9_xS z h
  have hA : ∀ q : Nat, s.heap.size ≤ q → A q := fun q h => by rw [← hAe]; exact Or.inr h
  obtain ⟨H, hH⟩ : ∃ H, H = s.heap := ⟨_, rfl⟩
  have hS : va_S A s.heap H [] := by rw [hH]; exact va_S.rf
  rw [← hH] at hP ⊢
  unfold L_ref at hf
  have hl := lv_entry ([.ref (ad 0 0), .int a1, .int a2, .int a3, .int a4, .int a5, .ref (ad 24 0)]) (n := 8) (Nat.le_of_ble_eq_true rfl)
  rw [lg_entry_eq]
  generalize (lg_sl ([.ref (ad 0 0), .int a1, .int a2, .int a3, .int a4, .int a5, .ref (ad 24 0)]) ++ List.replicate (8 - (lg_sl ([.ref (ad 0 0), .int a1, .int a2, .int a3, .int a4, .int a5, .ref (ad 24 0)])).length) Slot.unset).toArray = ls at hl ⊢
  have hl : lv_has ls 8 [(0, .ref (ad 0 0)), (1, .int a1), (2, .int a2), (3, .int a3), (4, .int a4), (5, .int a5), (6, .ref (ad 24 0))] := hl
  refine lv_aload (pc := 0) hx hb dL_ref_0 (lv_at hl 6 rfl) ?_
  refine lv_iconst (pc := 2) (v := 0) hx hb dL_ref_2 (by decide) ?_
  refine lv_aload_n (pc := 3) hx hb dL_ref_3 rfl (lv_at hl 0 rfl) ?_
  refine lv_iload_n (pc := 4) hx hb dL_ref_4 rfl (lv_at hl 1 rfl) ?_
  refine lv_iload_n (pc := 5) hx hb dL_ref_5 rfl (lv_at hl 2 rfl) ?_
  refine lv_iload_n (pc := 6) hx hb dL_ref_6 rfl (lv_at hl 3 rfl) ?_
  refine lv_iload (pc := 7) hx hb dL_ref_7 (lv_at hl 4 rfl) ?_
  refine lv_iload (pc := 9) hx hb dL_ref_9 (lv_at hl 5 rfl) ?_
  obtain ⟨q1, hq1, eq1⟩ := at_0 (ad := ad) (ca := ca) (σ := σ) hm0
  obtain ⟨⟨y2o, σ3⟩, hy2, hf⟩ := ob hf
  rcases y2o with _ | y2
  · replace hf := cx_n hf
    have hFc := w9_free hD hS hA
    refine tCatchV (pc := 11) (As := [.int a1, .int a2, .int a3, .int a4, .int a5]) (rest := [.int 0, .ref (ad 24 0)]) (C := RV) (E := nIS) (name := nIS) ⟨hx, hb, hml, hown, hts⟩ (x_V_ref l dC dI ad ca dom H.size σ a1 a2 a3 a4 a5 hm0 hN hC σ3 hfl hy2) (cwV 5 hts (gV wd_722 wd_723 wd_724 wd_254 wd_721) rfl rfl rfl (by decide +kernel) ⟨Nat.le_of_ble_eq_true rfl, Nat.le_of_ble_eq_true rfl⟩) ⟨hX_blind, va_recv (q := (RV, TV, 9)) (q0 := q1) (ci := 0) hK.1 hP rfl eq1, hX_pre hP hK hD hG hE hS hSA⟩ rfl hl.1 rfl (lv_room (Nat.le_of_ble_eq_true rfl)) dL_ref_11 ⟨Nat.le_of_ble_eq_true rfl, Nat.le_of_ble_eq_true rfl⟩ htab (by decide) (by decide) (hts _ wd_704) (va_Nw.use rfl hE.2.1) (fun q4 L9 H1 hq9 hz9 hL9 hB9 hk9 => ?_)
    obtain ⟨hP, hD, hC⟩ := hB9
    replace hD := hD.weaken (fun _ _ _ h => hFc _ h)
    have hS := cS9 hS hz9 hL9 hFc hk9
    generalize H1 = H at hP hS ⊢
    refine W.widen (k := 1) (n := 6) (Nat.le_of_ble_eq_true rfl) (Nat.le_of_ble_eq_true rfl) ?_
    refine lv_astore (pc := 26) hx hb dL_ref_26 hl (by decide) rfl (fun ls hl => ?_)
    have hl : lv_has ls 8 [(7, .ref q4), (0, .ref (ad 0 0)), (1, .int a1), (2, .int a2), (3, .int a3), (4, .int a4), (5, .int a5), (6, .ref (ad 24 0))] := hl
    refine lv_iconst (pc := 28) (v := 1) hx hb dL_ref_28 (by decide) ?_
    obtain ⟨h8, h9⟩ := Prod.mk.inj (Option.some.inj hf)
    subst h9
    exact W.iret (pc := 29) hx hb hr (fun t ht hW => ⟨⟨_, (), rfl, h8, by rw [ht]; exact hP, hD, hC⟩, hS.F ht⟩) hS.2.2 dL_ref_29
  replace hf := cx_s hf
  have hFc := w9_free hD hS hA
  refine va_calli (pc := 11) (va_runV (As := [.int a1, .int a2, .int a3, .int a4, .int a5]) (rest := [.int 0, .ref (ad 24 0)]) ⟨hx, hb, hml, hown, hts⟩ (t_V_ref l dC dI ad ca dom H.size σ a1 a2 a3 a4 a5 hm0 hN hC y2 σ3 hy2) (cwV 5 hts (gV wd_722 wd_723 wd_724 wd_254 wd_721) rfl rfl rfl (by decide +kernel) ⟨Nat.le_of_ble_eq_true rfl, Nat.le_of_ble_eq_true rfl⟩) ⟨hW_blind, va_recv (q := (RV, TV, 9)) (q0 := q1) (ci := 0) hK.1 hP rfl eq1, hW_pre hP hK hD hG⟩ rfl rfl hl.1 rfl (lv_room (Nat.le_of_ble_eq_true rfl)) dL_ref_11 ⟨Nat.le_of_ble_eq_true rfl, Nat.le_of_ble_eq_true rfl⟩) hS (fun q _ h => hFc q h) hFc (fun r9 u t H1 locs ht hvm hr9 hB hz1 hk1 hS => ?_)
  obtain ⟨hP, hD, hC⟩ := hB
  rw [ht] at hP
  replace hD := hD.weaken (fun _ _ _ h => hFc _ h)
  generalize H1 = H at hP hS ⊢
  refine W.eq (g2 := F0 m 14 ls [.int y2, .int 0, .ref (ad 24 0)]) (by rw [hr9]) ?_
  obtain ⟨x5, hx5, hf⟩ := lt_9 hf
  refine jnF (τ := (Int64) × (Heap) × (List Loc) × (Array Slot)) (fun pc st z => W p l e _ s m _ below meth c z.2.1 z.2.2.1 0 0 _ (F0 m pc z.2.2.2 st)) (pc0 := 14) (st0 := [.int y2, .int 0, .ref (ad 24 0)]) (z0 := (0, H, _, ls)) 22 (fun z => [.long z.1, .int 0, .ref (ad 24 0)]) (fun z => va_P (dC, dI) kCl (w9 ad ca dom (σ3)) z.2.1 ∧ va_D A (w9 ad ca dom (σ3)) ∧ va_S A s.heap z.2.1 z.2.2.1 ∧ lv_has z.2.2.2 8 [(0, .ref (ad 0 0)), (1, .int a1), (2, .int a2), (3, .int a3), (4, .int a4), (5, .int a5), (6, .ref (ad 24 0))]) (fun z => x5 z.1) (ρ, σ') ?_ ?_
  · intro hJx5
    dsimp only at hJx5 ⊢
    refine lv_if_eq (pc := 14) (tgt := 21) hx hb dL_ref_14 rfl (fun h7 => ?_) (fun h7 => ?_)
    · replace hf := ite_t h7 hf
      refine lv_lconst (pc := 21) (v := 0) hx hb dL_ref_21 (by decide) ?_
      have hl := lv_sub hl (l' := [(0, .ref (ad 0 0)), (1, .int a1), (2, .int a2), (3, .int a3), (4, .int a4), (5, .int a5), (6, .ref (ad 24 0))]) [0, 1, 2, 3, 4, 5, 6] rfl
      exact hJx5 (0, H, _, ls) ⟨hP, hD, hS, hl⟩ hf
    · replace hf := ite_f h7 hf
      refine lv_lconst (pc := 17) (v := 1) hx hb dL_ref_17 (by decide) ?_
      refine lv_goto (pc := 18) (tgt := 22) hx hb dL_ref_18 rfl ?_
      have hl := lv_sub hl (l' := [(0, .ref (ad 0 0)), (1, .int a1), (2, .int a2), (3, .int a3), (4, .int a4), (5, .int a5), (6, .ref (ad 24 0))]) [0, 1, 2, 3, 4, 5, 6] rfl
      exact hJx5 (1, H, _, ls) ⟨hP, hD, hS, hl⟩ hf
  · rintro ⟨s6, H, locs, ls⟩ ⟨hP, hD, hS, hl⟩ hf
    dsimp only at hP hD hS hl hf ⊢
    rw [hx5] at hf
    have hl : lv_has ls 8 [(0, .ref (ad 0 0)), (1, .int a1), (2, .int a2), (3, .int a3), (4, .int a4), (5, .int a5), (6, .ref (ad 24 0))] := hl
    obtain ⟨q9, hq9, eq9⟩ := at_24 (ad := ad) (ca := ca) (σ := σ3) hm6
    refine va_last (D := (dC, dI)) (cl := kCl) (pc := 22) hx hb (hK.2 24 0 .long hm6 rfl) hP hD hS q9 0 eq9 rfl (vp_in_lit 0 1 (by decide)) dL_ref_22 (fun H locs hP hD hS => ?_)
    obtain ⟨σ8, hσ8, hf⟩ := lt_9 hf
    obtain ⟨hP, hD⟩ := w9_rL 24 rfl hN hq9 hσ8 (pr_24) hP hD
    have hC : clo dom σ8.2.2 := by rw [hσ8]; exact hC
    refine lv_goto (pc := 23) (tgt := 30) hx hb dL_ref_23 rfl ?_
    refine lv_iconst (pc := 30) (v := 0) hx hb dL_ref_30 (by decide) ?_
    obtain ⟨h8, h9⟩ := Prod.mk.inj (Option.some.inj hf)
    subst h9
    refine W.widen (k := 1) (n := 6) (Nat.le_of_ble_eq_true rfl) (Nat.le_of_ble_eq_true rfl) ?_
    exact W.iret (pc := 31) hx hb hr (fun t ht hW => ⟨⟨_, (), rfl, h8, by rw [ht]; exact hP, hD, hC⟩, hS.F ht⟩) hS.2.2 dL_ref_31
def L_drop (n : Nat) (σ : hT) (a1 : Int32) (a2 : Int32) (a3 : Int32) : Option (Int32 × hT) := Option.bind (V_drop n σ a1 a2 a3) fun ⟨y2o, σ3⟩ => cx9 y2o (some (1, σ3)) fun y2 => lt9 (α := Int64 → Option (Int32 × hT)) (fun (s6 : Int64) => lt9 (sL σ3 24 0 0 s6) fun σ8 => some (0, σ8)) fun x5 => if y2 = 0 then x5 0 else x5 1
set_option maxHeartbeats 4000000 in
set_option maxRecDepth 100000 in
theorem t_L_drop (l : Launch) (dC : Nat → ClassId) (dI : Nat → Nat → Nat) (ad : Nat → Nat → Nat) (ca : Nat → Nat → ClassId) (dom : List (Nat × Nat)) (sz : Nat) (n : Nat) (σ : hT) (a1 : Int32) (a2 : Int32) (a3 : Int32) (hm0 : (0, 0) ∈ dom) (hm4 : (24, 0) ∈ dom) (hN : dom.Nodup) (hC : clo dom σ.2.2) (hfl : l.stackTraces = false) (ρ : Int32) (σ' : hT) (hf : L_drop n σ a1 a2 a3 = some (ρ, σ')) : Met l yL_drop (.codeWith yL_drop cL_drop 6 (some .int) [(0, 19, 22, 13)] :: aw) ({ frames := 8, cells := 1, slots := 6, locals := 126 }) (hX (dC, dI) sz ad ca dom σ [.ref (ad 0 0), .int a1, .int a2, .int a3, .ref (ad 24 0)]) (va_Qi (fun r (_ : Unit) => r = ρ) (fun _ t => hB (dC, dI) (va_A (w9 ad ca dom σ) sz) ad ca dom σ' t) (va_A (w9 ad ca dom σ) sz)) 1 6 (va_A (w9 ad ca dom σ) sz) := by
  refine va_MetW (hh := [(0, 19, 22, 13)]) (cc := cL_drop) (maxL := 6) (ret := (some .int)) (by decide) rfl ?_
  intro p e s m args below meth c s₁ B hml hv
  obtain ⟨rfl, hv⟩ := hv
  obtain ⟨m9, meth9, c9, hn9, g1, g2, -, -, g6, -⟩ := Cond.codeWith_spec (atoms_spec (ws := (.codeWith yL_drop cL_drop 6 (some .int) [(0, 19, 22, 13)] :: aw)) B.pre _ List.mem_cons_self)
  cases Option.some.inj (hn9.symm.trans B.named)
  cases Option.some.inj (g1.symm.trans B.method)
  cases Option.some.inj (g2.symm.trans (Stand.of_body B).code)
  have htab := tab1 g6
  have hx := B.exec
  have hb := B.bytes
  have hr := B.returns
  have hts : ∀ w ∈ aw, w.before _ s = true := fun w h => atoms_spec (ws := (.codeWith yL_drop cL_drop 6 (some .int) [(0, 19, 22, 13)] :: aw)) B.pre w (List.mem_cons_of_mem _ h)
  have hown : s.vm.findClass RL = some m.cls := findClass_of_methodNamed B.named
  have hlocks := B.notSynchronized
  obtain ⟨hsz, hP, hK, hD0, hG, hE⟩ := hv
  subst hsz
  have hD := hD0.self (sz := s.heap.size)
  generalize hAe : va_A (w9 ad ca dom σ) s.heap.size = A at hD ⊢
  have hSA : ∀ q : Nat, q < s.heap.size → A q → xS ad dom q := fun q h z => by rw [← hAe] at z; exact w9_xS z h
  have hA : ∀ q : Nat, s.heap.size ≤ q → A q := fun q h => by rw [← hAe]; exact Or.inr h
  obtain ⟨H, hH⟩ : ∃ H, H = s.heap := ⟨_, rfl⟩
  have hS : va_S A s.heap H [] := by rw [hH]; exact va_S.rf
  rw [← hH] at hP ⊢
  unfold L_drop at hf
  have hl := lv_entry ([.ref (ad 0 0), .int a1, .int a2, .int a3, .ref (ad 24 0)]) (n := 6) (Nat.le_of_ble_eq_true rfl)
  rw [lg_entry_eq]
  generalize (lg_sl ([.ref (ad 0 0), .int a1, .int a2, .int a3, .ref (ad 24 0)]) ++ List.replicate (6 - (lg_sl ([.ref (ad 0 0), .int a1, .int a2, .int a3, .ref (ad 24 0)])).length) Slot.unset).toArray = ls at hl ⊢
  have hl : lv_has ls 6 [(0, .ref (ad 0 0)), (1, .int a1), (2, .int a2), (3, .int a3), (4, .ref (ad 24 0))] := hl
  refine lv_aload (pc := 0) hx hb dL_drop_0 (lv_at hl 4 rfl) ?_
  refine lv_iconst (pc := 2) (v := 0) hx hb dL_drop_2 (by decide) ?_
  refine lv_aload_n (pc := 3) hx hb dL_drop_3 rfl (lv_at hl 0 rfl) ?_
  refine lv_iload_n (pc := 4) hx hb dL_drop_4 rfl (lv_at hl 1 rfl) ?_
  refine lv_iload_n (pc := 5) hx hb dL_drop_5 rfl (lv_at hl 2 rfl) ?_
  refine lv_iload_n (pc := 6) hx hb dL_drop_6 rfl (lv_at hl 3 rfl) ?_
  obtain ⟨q1, hq1, eq1⟩ := at_0 (ad := ad) (ca := ca) (σ := σ) hm0
  obtain ⟨⟨y2o, σ3⟩, hy2, hf⟩ := ob hf
  rcases y2o with _ | y2
  · replace hf := cx_n hf
    have hFc := w9_free hD hS hA
    refine tCatchV (pc := 7) (As := [.int a1, .int a2, .int a3]) (rest := [.int 0, .ref (ad 24 0)]) (C := RV) (E := nIS) (name := nIS) ⟨hx, hb, hml, hown, hts⟩ (x_V_drop l dC dI ad ca dom H.size n σ a1 a2 a3 hm0 hN hC σ3 hfl hy2) (cwV 3 hts (gV wd_726 wd_727 wd_728 wd_254 wd_725) rfl rfl rfl (by decide +kernel) ⟨Nat.le_of_ble_eq_true rfl, Nat.le_of_ble_eq_true rfl⟩) ⟨hX_blind, va_recv (q := (RV, TV, 9)) (q0 := q1) (ci := 0) hK.1 hP rfl eq1, hX_pre hP hK hD hG hE hS hSA⟩ rfl hl.1 rfl (lv_room (Nat.le_of_ble_eq_true rfl)) dL_drop_7 ⟨Nat.le_of_ble_eq_true rfl, Nat.le_of_ble_eq_true rfl⟩ htab (by decide) (by decide) (hts _ wd_704) (va_Nw.use rfl hE.2.1) (fun q4 L9 H1 hq9 hz9 hL9 hB9 hk9 => ?_)
    obtain ⟨hP, hD, hC⟩ := hB9
    replace hD := hD.weaken (fun _ _ _ h => hFc _ h)
    have hS := cS9 hS hz9 hL9 hFc hk9
    generalize H1 = H at hP hS ⊢
    refine W.widen (k := 1) (n := 6) (Nat.le_of_ble_eq_true rfl) (Nat.le_of_ble_eq_true rfl) ?_
    refine lv_astore (pc := 22) hx hb dL_drop_22 hl (by decide) rfl (fun ls hl => ?_)
    have hl : lv_has ls 6 [(5, .ref q4), (0, .ref (ad 0 0)), (1, .int a1), (2, .int a2), (3, .int a3), (4, .ref (ad 24 0))] := hl
    refine lv_iconst (pc := 24) (v := 1) hx hb dL_drop_24 (by decide) ?_
    obtain ⟨h8, h9⟩ := Prod.mk.inj (Option.some.inj hf)
    subst h9
    exact W.iret (pc := 25) hx hb hr (fun t ht hW => ⟨⟨_, (), rfl, h8, by rw [ht]; exact hP, hD, hC⟩, hS.F ht⟩) hS.2.2 dL_drop_25
  replace hf := cx_s hf
  have hFc := w9_free hD hS hA
  refine va_calli (pc := 7) (va_runV (As := [.int a1, .int a2, .int a3]) (rest := [.int 0, .ref (ad 24 0)]) ⟨hx, hb, hml, hown, hts⟩ (t_V_drop l dC dI ad ca dom H.size n σ a1 a2 a3 hm0 hN hC y2 σ3 hy2) (cwV 3 hts (gV wd_726 wd_727 wd_728 wd_254 wd_725) rfl rfl rfl (by decide +kernel) ⟨Nat.le_of_ble_eq_true rfl, Nat.le_of_ble_eq_true rfl⟩) ⟨hW_blind, va_recv (q := (RV, TV, 9)) (q0 := q1) (ci := 0) hK.1 hP rfl eq1, hW_pre hP hK hD hG⟩ rfl rfl hl.1 rfl (lv_room (Nat.le_of_ble_eq_true rfl)) dL_drop_7 ⟨Nat.le_of_ble_eq_true rfl, Nat.le_of_ble_eq_true rfl⟩) hS (fun q _ h => hFc q h) hFc (fun r9 u t H1 locs ht hvm hr9 hB hz1 hk1 hS => ?_)
  obtain ⟨hP, hD, hC⟩ := hB
  rw [ht] at hP
  replace hD := hD.weaken (fun _ _ _ h => hFc _ h)
  generalize H1 = H at hP hS ⊢
  refine W.eq (g2 := F0 m 10 ls [.int y2, .int 0, .ref (ad 24 0)]) (by rw [hr9]) ?_
  obtain ⟨x5, hx5, hf⟩ := lt_9 hf
  refine jnF (τ := (Int64) × (Heap) × (List Loc) × (Array Slot)) (fun pc st z => W p l e _ s m _ below meth c z.2.1 z.2.2.1 0 0 _ (F0 m pc z.2.2.2 st)) (pc0 := 10) (st0 := [.int y2, .int 0, .ref (ad 24 0)]) (z0 := (0, H, _, ls)) 18 (fun z => [.long z.1, .int 0, .ref (ad 24 0)]) (fun z => va_P (dC, dI) kCl (w9 ad ca dom (σ3)) z.2.1 ∧ va_D A (w9 ad ca dom (σ3)) ∧ va_S A s.heap z.2.1 z.2.2.1 ∧ lv_has z.2.2.2 6 [(0, .ref (ad 0 0)), (1, .int a1), (2, .int a2), (3, .int a3), (4, .ref (ad 24 0))]) (fun z => x5 z.1) (ρ, σ') ?_ ?_
  · intro hJx5
    dsimp only at hJx5 ⊢
    refine lv_if_eq (pc := 10) (tgt := 17) hx hb dL_drop_10 rfl (fun h7 => ?_) (fun h7 => ?_)
    · replace hf := ite_t h7 hf
      refine lv_lconst (pc := 17) (v := 0) hx hb dL_drop_17 (by decide) ?_
      have hl := lv_sub hl (l' := [(0, .ref (ad 0 0)), (1, .int a1), (2, .int a2), (3, .int a3), (4, .ref (ad 24 0))]) [0, 1, 2, 3, 4] rfl
      exact hJx5 (0, H, _, ls) ⟨hP, hD, hS, hl⟩ hf
    · replace hf := ite_f h7 hf
      refine lv_lconst (pc := 13) (v := 1) hx hb dL_drop_13 (by decide) ?_
      refine lv_goto (pc := 14) (tgt := 18) hx hb dL_drop_14 rfl ?_
      have hl := lv_sub hl (l' := [(0, .ref (ad 0 0)), (1, .int a1), (2, .int a2), (3, .int a3), (4, .ref (ad 24 0))]) [0, 1, 2, 3, 4] rfl
      exact hJx5 (1, H, _, ls) ⟨hP, hD, hS, hl⟩ hf
  · rintro ⟨s6, H, locs, ls⟩ ⟨hP, hD, hS, hl⟩ hf
    dsimp only at hP hD hS hl hf ⊢
    rw [hx5] at hf
    have hl : lv_has ls 6 [(0, .ref (ad 0 0)), (1, .int a1), (2, .int a2), (3, .int a3), (4, .ref (ad 24 0))] := hl
    obtain ⟨q9, hq9, eq9⟩ := at_24 (ad := ad) (ca := ca) (σ := σ3) hm4
    refine va_last (D := (dC, dI)) (cl := kCl) (pc := 18) hx hb (hK.2 24 0 .long hm4 rfl) hP hD hS q9 0 eq9 rfl (vp_in_lit 0 1 (by decide)) dL_drop_18 (fun H locs hP hD hS => ?_)
    obtain ⟨σ8, hσ8, hf⟩ := lt_9 hf
    obtain ⟨hP, hD⟩ := w9_rL 24 rfl hN hq9 hσ8 (pr_24) hP hD
    have hC : clo dom σ8.2.2 := by rw [hσ8]; exact hC
    refine lv_goto (pc := 19) (tgt := 26) hx hb dL_drop_19 rfl ?_
    refine lv_iconst (pc := 26) (v := 0) hx hb dL_drop_26 (by decide) ?_
    obtain ⟨h8, h9⟩ := Prod.mk.inj (Option.some.inj hf)
    subst h9
    refine W.widen (k := 1) (n := 6) (Nat.le_of_ble_eq_true rfl) (Nat.le_of_ble_eq_true rfl) ?_
    exact W.iret (pc := 27) hx hb hr (fun t ht hW => ⟨⟨_, (), rfl, h8, by rw [ht]; exact hP, hD, hC⟩, hS.F ht⟩) hS.2.2 dL_drop_27
def L_check (n : Nat) (σ : hT) (a1 : Int32) (a2 : Int32) (a3 : Int32) : Option (Int32 × hT) := Option.bind (V_check n σ a1 a2 a3) fun ⟨y2o, σ3⟩ => cx9 y2o (some (1, σ3)) fun y2 => lt9 (α := Int64 → Option (Int32 × hT)) (fun (s6 : Int64) => lt9 (sL σ3 24 0 0 s6) fun σ8 => some (0, σ8)) fun x5 => if y2 = 0 then x5 0 else x5 1
set_option maxHeartbeats 4000000 in
set_option maxRecDepth 100000 in
theorem t_L_check (l : Launch) (dC : Nat → ClassId) (dI : Nat → Nat → Nat) (ad : Nat → Nat → Nat) (ca : Nat → Nat → ClassId) (dom : List (Nat × Nat)) (sz : Nat) (n : Nat) (σ : hT) (a1 : Int32) (a2 : Int32) (a3 : Int32) (hm0 : (0, 0) ∈ dom) (hm4 : (24, 0) ∈ dom) (hN : dom.Nodup) (hC : clo dom σ.2.2) (hfl : l.stackTraces = false) (ρ : Int32) (σ' : hT) (hf : L_check n σ a1 a2 a3 = some (ρ, σ')) : Met l yL_check (.codeWith yL_check cL_check 6 (some .int) [(0, 19, 22, 13)] :: aw) ({ frames := 9, cells := 1, slots := 6, locals := 173 }) (hX (dC, dI) sz ad ca dom σ [.ref (ad 0 0), .int a1, .int a2, .int a3, .ref (ad 24 0)]) (va_Qi (fun r (_ : Unit) => r = ρ) (fun _ t => hB (dC, dI) (va_A (w9 ad ca dom σ) sz) ad ca dom σ' t) (va_A (w9 ad ca dom σ) sz)) 1 6 (va_A (w9 ad ca dom σ) sz) := by
  refine va_MetW (hh := [(0, 19, 22, 13)]) (cc := cL_check) (maxL := 6) (ret := (some .int)) (by decide) rfl ?_
  intro p e s m args below meth c s₁ B hml hv
  obtain ⟨rfl, hv⟩ := hv
  obtain ⟨m9, meth9, c9, hn9, g1, g2, -, -, g6, -⟩ := Cond.codeWith_spec (atoms_spec (ws := (.codeWith yL_check cL_check 6 (some .int) [(0, 19, 22, 13)] :: aw)) B.pre _ List.mem_cons_self)
  cases Option.some.inj (hn9.symm.trans B.named)
  cases Option.some.inj (g1.symm.trans B.method)
  cases Option.some.inj (g2.symm.trans (Stand.of_body B).code)
  have htab := tab1 g6
  have hx := B.exec
  have hb := B.bytes
  have hr := B.returns
  have hts : ∀ w ∈ aw, w.before _ s = true := fun w h => atoms_spec (ws := (.codeWith yL_check cL_check 6 (some .int) [(0, 19, 22, 13)] :: aw)) B.pre w (List.mem_cons_of_mem _ h)
  have hown : s.vm.findClass RL = some m.cls := findClass_of_methodNamed B.named
  have hlocks := B.notSynchronized
  obtain ⟨hsz, hP, hK, hD0, hG, hE⟩ := hv
  subst hsz
  have hD := hD0.self (sz := s.heap.size)
  generalize hAe : va_A (w9 ad ca dom σ) s.heap.size = A at hD ⊢
  have hSA : ∀ q : Nat, q < s.heap.size → A q → xS ad dom q := fun q h z => by rw [← hAe] at z; exact w9_xS z h
  have hA : ∀ q : Nat, s.heap.size ≤ q → A q := fun q h => by rw [← hAe]; exact Or.inr h
  obtain ⟨H, hH⟩ : ∃ H, H = s.heap := ⟨_, rfl⟩
  have hS : va_S A s.heap H [] := by rw [hH]; exact va_S.rf
  rw [← hH] at hP ⊢
  unfold L_check at hf
  have hl := lv_entry ([.ref (ad 0 0), .int a1, .int a2, .int a3, .ref (ad 24 0)]) (n := 6) (Nat.le_of_ble_eq_true rfl)
  rw [lg_entry_eq]
  generalize (lg_sl ([.ref (ad 0 0), .int a1, .int a2, .int a3, .ref (ad 24 0)]) ++ List.replicate (6 - (lg_sl ([.ref (ad 0 0), .int a1, .int a2, .int a3, .ref (ad 24 0)])).length) Slot.unset).toArray = ls at hl ⊢
  have hl : lv_has ls 6 [(0, .ref (ad 0 0)), (1, .int a1), (2, .int a2), (3, .int a3), (4, .ref (ad 24 0))] := hl
  refine lv_aload (pc := 0) hx hb dL_check_0 (lv_at hl 4 rfl) ?_
  refine lv_iconst (pc := 2) (v := 0) hx hb dL_check_2 (by decide) ?_
  refine lv_aload_n (pc := 3) hx hb dL_check_3 rfl (lv_at hl 0 rfl) ?_
  refine lv_iload_n (pc := 4) hx hb dL_check_4 rfl (lv_at hl 1 rfl) ?_
  refine lv_iload_n (pc := 5) hx hb dL_check_5 rfl (lv_at hl 2 rfl) ?_
  refine lv_iload_n (pc := 6) hx hb dL_check_6 rfl (lv_at hl 3 rfl) ?_
  obtain ⟨q1, hq1, eq1⟩ := at_0 (ad := ad) (ca := ca) (σ := σ) hm0
  obtain ⟨⟨y2o, σ3⟩, hy2, hf⟩ := ob hf
  rcases y2o with _ | y2
  · replace hf := cx_n hf
    have hFc := w9_free hD hS hA
    refine tCatchV (pc := 7) (As := [.int a1, .int a2, .int a3]) (rest := [.int 0, .ref (ad 24 0)]) (C := RV) (E := nIS) (name := nIS) ⟨hx, hb, hml, hown, hts⟩ (x_V_check l dC dI ad ca dom H.size n σ a1 a2 a3 hm0 hN hC σ3 hfl hy2) (cwV 3 hts (gV wd_730 wd_731 wd_732 wd_254 wd_729) rfl rfl rfl (by decide +kernel) ⟨Nat.le_of_ble_eq_true rfl, Nat.le_of_ble_eq_true rfl⟩) ⟨hX_blind, va_recv (q := (RV, TV, 9)) (q0 := q1) (ci := 0) hK.1 hP rfl eq1, hX_pre hP hK hD hG hE hS hSA⟩ rfl hl.1 rfl (lv_room (Nat.le_of_ble_eq_true rfl)) dL_check_7 ⟨Nat.le_of_ble_eq_true rfl, Nat.le_of_ble_eq_true rfl⟩ htab (by decide) (by decide) (hts _ wd_704) (va_Nw.use rfl hE.2.1) (fun q4 L9 H1 hq9 hz9 hL9 hB9 hk9 => ?_)
    obtain ⟨hP, hD, hC⟩ := hB9
    replace hD := hD.weaken (fun _ _ _ h => hFc _ h)
    have hS := cS9 hS hz9 hL9 hFc hk9
    generalize H1 = H at hP hS ⊢
    refine W.widen (k := 1) (n := 6) (Nat.le_of_ble_eq_true rfl) (Nat.le_of_ble_eq_true rfl) ?_
    refine lv_astore (pc := 22) hx hb dL_check_22 hl (by decide) rfl (fun ls hl => ?_)
    have hl : lv_has ls 6 [(5, .ref q4), (0, .ref (ad 0 0)), (1, .int a1), (2, .int a2), (3, .int a3), (4, .ref (ad 24 0))] := hl
    refine lv_iconst (pc := 24) (v := 1) hx hb dL_check_24 (by decide) ?_
    obtain ⟨h8, h9⟩ := Prod.mk.inj (Option.some.inj hf)
    subst h9
    exact W.iret (pc := 25) hx hb hr (fun t ht hW => ⟨⟨_, (), rfl, h8, by rw [ht]; exact hP, hD, hC⟩, hS.F ht⟩) hS.2.2 dL_check_25
  replace hf := cx_s hf
  have hFc := w9_free hD hS hA
  refine va_calli (pc := 7) (va_runV (As := [.int a1, .int a2, .int a3]) (rest := [.int 0, .ref (ad 24 0)]) ⟨hx, hb, hml, hown, hts⟩ (t_V_check l dC dI ad ca dom H.size n σ a1 a2 a3 hm0 hN hC y2 σ3 hy2) (cwV 3 hts (gV wd_730 wd_731 wd_732 wd_254 wd_729) rfl rfl rfl (by decide +kernel) ⟨Nat.le_of_ble_eq_true rfl, Nat.le_of_ble_eq_true rfl⟩) ⟨hW_blind, va_recv (q := (RV, TV, 9)) (q0 := q1) (ci := 0) hK.1 hP rfl eq1, hW_pre hP hK hD hG⟩ rfl rfl hl.1 rfl (lv_room (Nat.le_of_ble_eq_true rfl)) dL_check_7 ⟨Nat.le_of_ble_eq_true rfl, Nat.le_of_ble_eq_true rfl⟩) hS (fun q _ h => hFc q h) hFc (fun r9 u t H1 locs ht hvm hr9 hB hz1 hk1 hS => ?_)
  obtain ⟨hP, hD, hC⟩ := hB
  rw [ht] at hP
  replace hD := hD.weaken (fun _ _ _ h => hFc _ h)
  generalize H1 = H at hP hS ⊢
  refine W.eq (g2 := F0 m 10 ls [.int y2, .int 0, .ref (ad 24 0)]) (by rw [hr9]) ?_
  obtain ⟨x5, hx5, hf⟩ := lt_9 hf
  refine jnF (τ := (Int64) × (Heap) × (List Loc) × (Array Slot)) (fun pc st z => W p l e _ s m _ below meth c z.2.1 z.2.2.1 0 0 _ (F0 m pc z.2.2.2 st)) (pc0 := 10) (st0 := [.int y2, .int 0, .ref (ad 24 0)]) (z0 := (0, H, _, ls)) 18 (fun z => [.long z.1, .int 0, .ref (ad 24 0)]) (fun z => va_P (dC, dI) kCl (w9 ad ca dom (σ3)) z.2.1 ∧ va_D A (w9 ad ca dom (σ3)) ∧ va_S A s.heap z.2.1 z.2.2.1 ∧ lv_has z.2.2.2 6 [(0, .ref (ad 0 0)), (1, .int a1), (2, .int a2), (3, .int a3), (4, .ref (ad 24 0))]) (fun z => x5 z.1) (ρ, σ') ?_ ?_
  · intro hJx5
    dsimp only at hJx5 ⊢
    refine lv_if_eq (pc := 10) (tgt := 17) hx hb dL_check_10 rfl (fun h7 => ?_) (fun h7 => ?_)
    · replace hf := ite_t h7 hf
      refine lv_lconst (pc := 17) (v := 0) hx hb dL_check_17 (by decide) ?_
      have hl := lv_sub hl (l' := [(0, .ref (ad 0 0)), (1, .int a1), (2, .int a2), (3, .int a3), (4, .ref (ad 24 0))]) [0, 1, 2, 3, 4] rfl
      exact hJx5 (0, H, _, ls) ⟨hP, hD, hS, hl⟩ hf
    · replace hf := ite_f h7 hf
      refine lv_lconst (pc := 13) (v := 1) hx hb dL_check_13 (by decide) ?_
      refine lv_goto (pc := 14) (tgt := 18) hx hb dL_check_14 rfl ?_
      have hl := lv_sub hl (l' := [(0, .ref (ad 0 0)), (1, .int a1), (2, .int a2), (3, .int a3), (4, .ref (ad 24 0))]) [0, 1, 2, 3, 4] rfl
      exact hJx5 (1, H, _, ls) ⟨hP, hD, hS, hl⟩ hf
  · rintro ⟨s6, H, locs, ls⟩ ⟨hP, hD, hS, hl⟩ hf
    dsimp only at hP hD hS hl hf ⊢
    rw [hx5] at hf
    have hl : lv_has ls 6 [(0, .ref (ad 0 0)), (1, .int a1), (2, .int a2), (3, .int a3), (4, .ref (ad 24 0))] := hl
    obtain ⟨q9, hq9, eq9⟩ := at_24 (ad := ad) (ca := ca) (σ := σ3) hm4
    refine va_last (D := (dC, dI)) (cl := kCl) (pc := 18) hx hb (hK.2 24 0 .long hm4 rfl) hP hD hS q9 0 eq9 rfl (vp_in_lit 0 1 (by decide)) dL_check_18 (fun H locs hP hD hS => ?_)
    obtain ⟨σ8, hσ8, hf⟩ := lt_9 hf
    obtain ⟨hP, hD⟩ := w9_rL 24 rfl hN hq9 hσ8 (pr_24) hP hD
    have hC : clo dom σ8.2.2 := by rw [hσ8]; exact hC
    refine lv_goto (pc := 19) (tgt := 26) hx hb dL_check_19 rfl ?_
    refine lv_iconst (pc := 26) (v := 0) hx hb dL_check_26 (by decide) ?_
    obtain ⟨h8, h9⟩ := Prod.mk.inj (Option.some.inj hf)
    subst h9
    refine W.widen (k := 1) (n := 6) (Nat.le_of_ble_eq_true rfl) (Nat.le_of_ble_eq_true rfl) ?_
    exact W.iret (pc := 27) hx hb hr (fun t ht hW => ⟨⟨_, (), rfl, h8, by rw [ht]; exact hP, hD, hC⟩, hS.F ht⟩) hS.2.2 dL_check_27
def L_release (n : Nat) (σ : hT) (a1 : Int32) (a2 : Int32) (a3 : Int32) : Option (Int32 × hT) := Option.bind (V_release n σ a1 a2 a3) fun ⟨y2o, σ3⟩ => cx9 y2o (some (1, σ3)) fun y2 => lt9 (α := Int64 → Option (Int32 × hT)) (fun (s6 : Int64) => lt9 (sL σ3 24 0 0 s6) fun σ8 => some (0, σ8)) fun x5 => if y2 = 0 then x5 0 else x5 1
set_option maxHeartbeats 4000000 in
set_option maxRecDepth 100000 in
theorem t_L_release (l : Launch) (dC : Nat → ClassId) (dI : Nat → Nat → Nat) (ad : Nat → Nat → Nat) (ca : Nat → Nat → ClassId) (dom : List (Nat × Nat)) (sz : Nat) (n : Nat) (σ : hT) (a1 : Int32) (a2 : Int32) (a3 : Int32) (hm0 : (0, 0) ∈ dom) (hm4 : (24, 0) ∈ dom) (hN : dom.Nodup) (hC : clo dom σ.2.2) (hfl : l.stackTraces = false) (ρ : Int32) (σ' : hT) (hf : L_release n σ a1 a2 a3 = some (ρ, σ')) : Met l yL_release (.codeWith yL_release cL_release 6 (some .int) [(0, 19, 22, 13)] :: aw) ({ frames := 9, cells := 1, slots := 6, locals := 173 }) (hX (dC, dI) sz ad ca dom σ [.ref (ad 0 0), .int a1, .int a2, .int a3, .ref (ad 24 0)]) (va_Qi (fun r (_ : Unit) => r = ρ) (fun _ t => hB (dC, dI) (va_A (w9 ad ca dom σ) sz) ad ca dom σ' t) (va_A (w9 ad ca dom σ) sz)) 1 6 (va_A (w9 ad ca dom σ) sz) := by
  refine va_MetW (hh := [(0, 19, 22, 13)]) (cc := cL_release) (maxL := 6) (ret := (some .int)) (by decide) rfl ?_
  intro p e s m args below meth c s₁ B hml hv
  obtain ⟨rfl, hv⟩ := hv
  obtain ⟨m9, meth9, c9, hn9, g1, g2, -, -, g6, -⟩ := Cond.codeWith_spec (atoms_spec (ws := (.codeWith yL_release cL_release 6 (some .int) [(0, 19, 22, 13)] :: aw)) B.pre _ List.mem_cons_self)
  cases Option.some.inj (hn9.symm.trans B.named)
  cases Option.some.inj (g1.symm.trans B.method)
  cases Option.some.inj (g2.symm.trans (Stand.of_body B).code)
  have htab := tab1 g6
  have hx := B.exec
  have hb := B.bytes
  have hr := B.returns
  have hts : ∀ w ∈ aw, w.before _ s = true := fun w h => atoms_spec (ws := (.codeWith yL_release cL_release 6 (some .int) [(0, 19, 22, 13)] :: aw)) B.pre w (List.mem_cons_of_mem _ h)
  have hown : s.vm.findClass RL = some m.cls := findClass_of_methodNamed B.named
  have hlocks := B.notSynchronized
  obtain ⟨hsz, hP, hK, hD0, hG, hE⟩ := hv
  subst hsz
  have hD := hD0.self (sz := s.heap.size)
  generalize hAe : va_A (w9 ad ca dom σ) s.heap.size = A at hD ⊢
  have hSA : ∀ q : Nat, q < s.heap.size → A q → xS ad dom q := fun q h z => by rw [← hAe] at z; exact w9_xS z h
  have hA : ∀ q : Nat, s.heap.size ≤ q → A q := fun q h => by rw [← hAe]; exact Or.inr h
  obtain ⟨H, hH⟩ : ∃ H, H = s.heap := ⟨_, rfl⟩
  have hS : va_S A s.heap H [] := by rw [hH]; exact va_S.rf
  rw [← hH] at hP ⊢
  unfold L_release at hf
  have hl := lv_entry ([.ref (ad 0 0), .int a1, .int a2, .int a3, .ref (ad 24 0)]) (n := 6) (Nat.le_of_ble_eq_true rfl)
  rw [lg_entry_eq]
  generalize (lg_sl ([.ref (ad 0 0), .int a1, .int a2, .int a3, .ref (ad 24 0)]) ++ List.replicate (6 - (lg_sl ([.ref (ad 0 0), .int a1, .int a2, .int a3, .ref (ad 24 0)])).length) Slot.unset).toArray = ls at hl ⊢
  have hl : lv_has ls 6 [(0, .ref (ad 0 0)), (1, .int a1), (2, .int a2), (3, .int a3), (4, .ref (ad 24 0))] := hl
  refine lv_aload (pc := 0) hx hb dL_release_0 (lv_at hl 4 rfl) ?_
  refine lv_iconst (pc := 2) (v := 0) hx hb dL_release_2 (by decide) ?_
  refine lv_aload_n (pc := 3) hx hb dL_release_3 rfl (lv_at hl 0 rfl) ?_
  refine lv_iload_n (pc := 4) hx hb dL_release_4 rfl (lv_at hl 1 rfl) ?_
  refine lv_iload_n (pc := 5) hx hb dL_release_5 rfl (lv_at hl 2 rfl) ?_
  refine lv_iload_n (pc := 6) hx hb dL_release_6 rfl (lv_at hl 3 rfl) ?_
  obtain ⟨q1, hq1, eq1⟩ := at_0 (ad := ad) (ca := ca) (σ := σ) hm0
  obtain ⟨⟨y2o, σ3⟩, hy2, hf⟩ := ob hf
  rcases y2o with _ | y2
  · replace hf := cx_n hf
    have hFc := w9_free hD hS hA
    refine tCatchV (pc := 7) (As := [.int a1, .int a2, .int a3]) (rest := [.int 0, .ref (ad 24 0)]) (C := RV) (E := nIS) (name := nIS) ⟨hx, hb, hml, hown, hts⟩ (x_V_release l dC dI ad ca dom H.size n σ a1 a2 a3 hm0 hN hC σ3 hfl hy2) (cwV 3 hts (gV wd_734 wd_735 wd_736 wd_254 wd_733) rfl rfl rfl (by decide +kernel) ⟨Nat.le_of_ble_eq_true rfl, Nat.le_of_ble_eq_true rfl⟩) ⟨hX_blind, va_recv (q := (RV, TV, 9)) (q0 := q1) (ci := 0) hK.1 hP rfl eq1, hX_pre hP hK hD hG hE hS hSA⟩ rfl hl.1 rfl (lv_room (Nat.le_of_ble_eq_true rfl)) dL_release_7 ⟨Nat.le_of_ble_eq_true rfl, Nat.le_of_ble_eq_true rfl⟩ htab (by decide) (by decide) (hts _ wd_704) (va_Nw.use rfl hE.2.1) (fun q4 L9 H1 hq9 hz9 hL9 hB9 hk9 => ?_)
    obtain ⟨hP, hD, hC⟩ := hB9
    replace hD := hD.weaken (fun _ _ _ h => hFc _ h)
    have hS := cS9 hS hz9 hL9 hFc hk9
    generalize H1 = H at hP hS ⊢
    refine W.widen (k := 1) (n := 6) (Nat.le_of_ble_eq_true rfl) (Nat.le_of_ble_eq_true rfl) ?_
    refine lv_astore (pc := 22) hx hb dL_release_22 hl (by decide) rfl (fun ls hl => ?_)
    have hl : lv_has ls 6 [(5, .ref q4), (0, .ref (ad 0 0)), (1, .int a1), (2, .int a2), (3, .int a3), (4, .ref (ad 24 0))] := hl
    refine lv_iconst (pc := 24) (v := 1) hx hb dL_release_24 (by decide) ?_
    obtain ⟨h8, h9⟩ := Prod.mk.inj (Option.some.inj hf)
    subst h9
    exact W.iret (pc := 25) hx hb hr (fun t ht hW => ⟨⟨_, (), rfl, h8, by rw [ht]; exact hP, hD, hC⟩, hS.F ht⟩) hS.2.2 dL_release_25
  replace hf := cx_s hf
  have hFc := w9_free hD hS hA
  refine va_calli (pc := 7) (va_runV (As := [.int a1, .int a2, .int a3]) (rest := [.int 0, .ref (ad 24 0)]) ⟨hx, hb, hml, hown, hts⟩ (t_V_release l dC dI ad ca dom H.size n σ a1 a2 a3 hm0 hN hC y2 σ3 hy2) (cwV 3 hts (gV wd_734 wd_735 wd_736 wd_254 wd_733) rfl rfl rfl (by decide +kernel) ⟨Nat.le_of_ble_eq_true rfl, Nat.le_of_ble_eq_true rfl⟩) ⟨hW_blind, va_recv (q := (RV, TV, 9)) (q0 := q1) (ci := 0) hK.1 hP rfl eq1, hW_pre hP hK hD hG⟩ rfl rfl hl.1 rfl (lv_room (Nat.le_of_ble_eq_true rfl)) dL_release_7 ⟨Nat.le_of_ble_eq_true rfl, Nat.le_of_ble_eq_true rfl⟩) hS (fun q _ h => hFc q h) hFc (fun r9 u t H1 locs ht hvm hr9 hB hz1 hk1 hS => ?_)
  obtain ⟨hP, hD, hC⟩ := hB
  rw [ht] at hP
  replace hD := hD.weaken (fun _ _ _ h => hFc _ h)
  generalize H1 = H at hP hS ⊢
  refine W.eq (g2 := F0 m 10 ls [.int y2, .int 0, .ref (ad 24 0)]) (by rw [hr9]) ?_
  obtain ⟨x5, hx5, hf⟩ := lt_9 hf
  refine jnF (τ := (Int64) × (Heap) × (List Loc) × (Array Slot)) (fun pc st z => W p l e _ s m _ below meth c z.2.1 z.2.2.1 0 0 _ (F0 m pc z.2.2.2 st)) (pc0 := 10) (st0 := [.int y2, .int 0, .ref (ad 24 0)]) (z0 := (0, H, _, ls)) 18 (fun z => [.long z.1, .int 0, .ref (ad 24 0)]) (fun z => va_P (dC, dI) kCl (w9 ad ca dom (σ3)) z.2.1 ∧ va_D A (w9 ad ca dom (σ3)) ∧ va_S A s.heap z.2.1 z.2.2.1 ∧ lv_has z.2.2.2 6 [(0, .ref (ad 0 0)), (1, .int a1), (2, .int a2), (3, .int a3), (4, .ref (ad 24 0))]) (fun z => x5 z.1) (ρ, σ') ?_ ?_
  · intro hJx5
    dsimp only at hJx5 ⊢
    refine lv_if_eq (pc := 10) (tgt := 17) hx hb dL_release_10 rfl (fun h7 => ?_) (fun h7 => ?_)
    · replace hf := ite_t h7 hf
      refine lv_lconst (pc := 17) (v := 0) hx hb dL_release_17 (by decide) ?_
      have hl := lv_sub hl (l' := [(0, .ref (ad 0 0)), (1, .int a1), (2, .int a2), (3, .int a3), (4, .ref (ad 24 0))]) [0, 1, 2, 3, 4] rfl
      exact hJx5 (0, H, _, ls) ⟨hP, hD, hS, hl⟩ hf
    · replace hf := ite_f h7 hf
      refine lv_lconst (pc := 13) (v := 1) hx hb dL_release_13 (by decide) ?_
      refine lv_goto (pc := 14) (tgt := 18) hx hb dL_release_14 rfl ?_
      have hl := lv_sub hl (l' := [(0, .ref (ad 0 0)), (1, .int a1), (2, .int a2), (3, .int a3), (4, .ref (ad 24 0))]) [0, 1, 2, 3, 4] rfl
      exact hJx5 (1, H, _, ls) ⟨hP, hD, hS, hl⟩ hf
  · rintro ⟨s6, H, locs, ls⟩ ⟨hP, hD, hS, hl⟩ hf
    dsimp only at hP hD hS hl hf ⊢
    rw [hx5] at hf
    have hl : lv_has ls 6 [(0, .ref (ad 0 0)), (1, .int a1), (2, .int a2), (3, .int a3), (4, .ref (ad 24 0))] := hl
    obtain ⟨q9, hq9, eq9⟩ := at_24 (ad := ad) (ca := ca) (σ := σ3) hm4
    refine va_last (D := (dC, dI)) (cl := kCl) (pc := 18) hx hb (hK.2 24 0 .long hm4 rfl) hP hD hS q9 0 eq9 rfl (vp_in_lit 0 1 (by decide)) dL_release_18 (fun H locs hP hD hS => ?_)
    obtain ⟨σ8, hσ8, hf⟩ := lt_9 hf
    obtain ⟨hP, hD⟩ := w9_rL 24 rfl hN hq9 hσ8 (pr_24) hP hD
    have hC : clo dom σ8.2.2 := by rw [hσ8]; exact hC
    refine lv_goto (pc := 19) (tgt := 26) hx hb dL_release_19 rfl ?_
    refine lv_iconst (pc := 26) (v := 0) hx hb dL_release_26 (by decide) ?_
    obtain ⟨h8, h9⟩ := Prod.mk.inj (Option.some.inj hf)
    subst h9
    refine W.widen (k := 1) (n := 6) (Nat.le_of_ble_eq_true rfl) (Nat.le_of_ble_eq_true rfl) ?_
    exact W.iret (pc := 27) hx hb hr (fun t ht hW => ⟨⟨_, (), rfl, h8, by rw [ht]; exact hP, hD, hC⟩, hS.F ht⟩) hS.2.2 dL_release_27
def L_withdraw (n : Nat) (σ : hT) (a1 : Int32) (a2 : Int32) (a3 : Int32) : Option (Int32 × hT) := Option.bind (V_withdraw n σ a1 a2 a3) fun ⟨y2o, σ3⟩ => cx9 y2o (some (1, σ3)) fun y2 => lt9 (α := Int64 → Option (Int32 × hT)) (fun (s6 : Int64) => lt9 (sL σ3 24 0 0 s6) fun σ8 => some (0, σ8)) fun x5 => if y2 = 0 then x5 0 else x5 1
set_option maxHeartbeats 4000000 in
set_option maxRecDepth 100000 in
theorem t_L_withdraw (l : Launch) (dC : Nat → ClassId) (dI : Nat → Nat → Nat) (ad : Nat → Nat → Nat) (ca : Nat → Nat → ClassId) (dom : List (Nat × Nat)) (sz : Nat) (n : Nat) (σ : hT) (a1 : Int32) (a2 : Int32) (a3 : Int32) (hm0 : (0, 0) ∈ dom) (hm4 : (24, 0) ∈ dom) (hN : dom.Nodup) (hC : clo dom σ.2.2) (hfl : l.stackTraces = false) (ρ : Int32) (σ' : hT) (hf : L_withdraw n σ a1 a2 a3 = some (ρ, σ')) : Met l yL_withdraw (.codeWith yL_withdraw cL_withdraw 6 (some .int) [(0, 19, 22, 13)] :: aw) ({ frames := 9, cells := 1, slots := 6, locals := 173 }) (hX (dC, dI) sz ad ca dom σ [.ref (ad 0 0), .int a1, .int a2, .int a3, .ref (ad 24 0)]) (va_Qi (fun r (_ : Unit) => r = ρ) (fun _ t => hB (dC, dI) (va_A (w9 ad ca dom σ) sz) ad ca dom σ' t) (va_A (w9 ad ca dom σ) sz)) 1 6 (va_A (w9 ad ca dom σ) sz) := by
  refine va_MetW (hh := [(0, 19, 22, 13)]) (cc := cL_withdraw) (maxL := 6) (ret := (some .int)) (by decide) rfl ?_
  intro p e s m args below meth c s₁ B hml hv
  obtain ⟨rfl, hv⟩ := hv
  obtain ⟨m9, meth9, c9, hn9, g1, g2, -, -, g6, -⟩ := Cond.codeWith_spec (atoms_spec (ws := (.codeWith yL_withdraw cL_withdraw 6 (some .int) [(0, 19, 22, 13)] :: aw)) B.pre _ List.mem_cons_self)
  cases Option.some.inj (hn9.symm.trans B.named)
  cases Option.some.inj (g1.symm.trans B.method)
  cases Option.some.inj (g2.symm.trans (Stand.of_body B).code)
  have htab := tab1 g6
  have hx := B.exec
  have hb := B.bytes
  have hr := B.returns
  have hts : ∀ w ∈ aw, w.before _ s = true := fun w h => atoms_spec (ws := (.codeWith yL_withdraw cL_withdraw 6 (some .int) [(0, 19, 22, 13)] :: aw)) B.pre w (List.mem_cons_of_mem _ h)
  have hown : s.vm.findClass RL = some m.cls := findClass_of_methodNamed B.named
  have hlocks := B.notSynchronized
  obtain ⟨hsz, hP, hK, hD0, hG, hE⟩ := hv
  subst hsz
  have hD := hD0.self (sz := s.heap.size)
  generalize hAe : va_A (w9 ad ca dom σ) s.heap.size = A at hD ⊢
  have hSA : ∀ q : Nat, q < s.heap.size → A q → xS ad dom q := fun q h z => by rw [← hAe] at z; exact w9_xS z h
  have hA : ∀ q : Nat, s.heap.size ≤ q → A q := fun q h => by rw [← hAe]; exact Or.inr h
  obtain ⟨H, hH⟩ : ∃ H, H = s.heap := ⟨_, rfl⟩
  have hS : va_S A s.heap H [] := by rw [hH]; exact va_S.rf
  rw [← hH] at hP ⊢
  unfold L_withdraw at hf
  have hl := lv_entry ([.ref (ad 0 0), .int a1, .int a2, .int a3, .ref (ad 24 0)]) (n := 6) (Nat.le_of_ble_eq_true rfl)
  rw [lg_entry_eq]
  generalize (lg_sl ([.ref (ad 0 0), .int a1, .int a2, .int a3, .ref (ad 24 0)]) ++ List.replicate (6 - (lg_sl ([.ref (ad 0 0), .int a1, .int a2, .int a3, .ref (ad 24 0)])).length) Slot.unset).toArray = ls at hl ⊢
  have hl : lv_has ls 6 [(0, .ref (ad 0 0)), (1, .int a1), (2, .int a2), (3, .int a3), (4, .ref (ad 24 0))] := hl
  refine lv_aload (pc := 0) hx hb dL_withdraw_0 (lv_at hl 4 rfl) ?_
  refine lv_iconst (pc := 2) (v := 0) hx hb dL_withdraw_2 (by decide) ?_
  refine lv_aload_n (pc := 3) hx hb dL_withdraw_3 rfl (lv_at hl 0 rfl) ?_
  refine lv_iload_n (pc := 4) hx hb dL_withdraw_4 rfl (lv_at hl 1 rfl) ?_
  refine lv_iload_n (pc := 5) hx hb dL_withdraw_5 rfl (lv_at hl 2 rfl) ?_
  refine lv_iload_n (pc := 6) hx hb dL_withdraw_6 rfl (lv_at hl 3 rfl) ?_
  obtain ⟨q1, hq1, eq1⟩ := at_0 (ad := ad) (ca := ca) (σ := σ) hm0
  obtain ⟨⟨y2o, σ3⟩, hy2, hf⟩ := ob hf
  rcases y2o with _ | y2
  · replace hf := cx_n hf
    have hFc := w9_free hD hS hA
    refine tCatchV (pc := 7) (As := [.int a1, .int a2, .int a3]) (rest := [.int 0, .ref (ad 24 0)]) (C := RV) (E := nIS) (name := nIS) ⟨hx, hb, hml, hown, hts⟩ (x_V_withdraw l dC dI ad ca dom H.size n σ a1 a2 a3 hm0 hN hC σ3 hfl hy2) (cwV 3 hts (gV wd_738 wd_739 wd_740 wd_254 wd_737) rfl rfl rfl (by decide +kernel) ⟨Nat.le_of_ble_eq_true rfl, Nat.le_of_ble_eq_true rfl⟩) ⟨hX_blind, va_recv (q := (RV, TV, 9)) (q0 := q1) (ci := 0) hK.1 hP rfl eq1, hX_pre hP hK hD hG hE hS hSA⟩ rfl hl.1 rfl (lv_room (Nat.le_of_ble_eq_true rfl)) dL_withdraw_7 ⟨Nat.le_of_ble_eq_true rfl, Nat.le_of_ble_eq_true rfl⟩ htab (by decide) (by decide) (hts _ wd_704) (va_Nw.use rfl hE.2.1) (fun q4 L9 H1 hq9 hz9 hL9 hB9 hk9 => ?_)
    obtain ⟨hP, hD, hC⟩ := hB9
    replace hD := hD.weaken (fun _ _ _ h => hFc _ h)
    have hS := cS9 hS hz9 hL9 hFc hk9
    generalize H1 = H at hP hS ⊢
    refine W.widen (k := 1) (n := 6) (Nat.le_of_ble_eq_true rfl) (Nat.le_of_ble_eq_true rfl) ?_
    refine lv_astore (pc := 22) hx hb dL_withdraw_22 hl (by decide) rfl (fun ls hl => ?_)
    have hl : lv_has ls 6 [(5, .ref q4), (0, .ref (ad 0 0)), (1, .int a1), (2, .int a2), (3, .int a3), (4, .ref (ad 24 0))] := hl
    refine lv_iconst (pc := 24) (v := 1) hx hb dL_withdraw_24 (by decide) ?_
    obtain ⟨h8, h9⟩ := Prod.mk.inj (Option.some.inj hf)
    subst h9
    exact W.iret (pc := 25) hx hb hr (fun t ht hW => ⟨⟨_, (), rfl, h8, by rw [ht]; exact hP, hD, hC⟩, hS.F ht⟩) hS.2.2 dL_withdraw_25
  replace hf := cx_s hf
  have hFc := w9_free hD hS hA
  refine va_calli (pc := 7) (va_runV (As := [.int a1, .int a2, .int a3]) (rest := [.int 0, .ref (ad 24 0)]) ⟨hx, hb, hml, hown, hts⟩ (t_V_withdraw l dC dI ad ca dom H.size n σ a1 a2 a3 hm0 hN hC y2 σ3 hy2) (cwV 3 hts (gV wd_738 wd_739 wd_740 wd_254 wd_737) rfl rfl rfl (by decide +kernel) ⟨Nat.le_of_ble_eq_true rfl, Nat.le_of_ble_eq_true rfl⟩) ⟨hW_blind, va_recv (q := (RV, TV, 9)) (q0 := q1) (ci := 0) hK.1 hP rfl eq1, hW_pre hP hK hD hG⟩ rfl rfl hl.1 rfl (lv_room (Nat.le_of_ble_eq_true rfl)) dL_withdraw_7 ⟨Nat.le_of_ble_eq_true rfl, Nat.le_of_ble_eq_true rfl⟩) hS (fun q _ h => hFc q h) hFc (fun r9 u t H1 locs ht hvm hr9 hB hz1 hk1 hS => ?_)
  obtain ⟨hP, hD, hC⟩ := hB
  rw [ht] at hP
  replace hD := hD.weaken (fun _ _ _ h => hFc _ h)
  generalize H1 = H at hP hS ⊢
  refine W.eq (g2 := F0 m 10 ls [.int y2, .int 0, .ref (ad 24 0)]) (by rw [hr9]) ?_
  obtain ⟨x5, hx5, hf⟩ := lt_9 hf
  refine jnF (τ := (Int64) × (Heap) × (List Loc) × (Array Slot)) (fun pc st z => W p l e _ s m _ below meth c z.2.1 z.2.2.1 0 0 _ (F0 m pc z.2.2.2 st)) (pc0 := 10) (st0 := [.int y2, .int 0, .ref (ad 24 0)]) (z0 := (0, H, _, ls)) 18 (fun z => [.long z.1, .int 0, .ref (ad 24 0)]) (fun z => va_P (dC, dI) kCl (w9 ad ca dom (σ3)) z.2.1 ∧ va_D A (w9 ad ca dom (σ3)) ∧ va_S A s.heap z.2.1 z.2.2.1 ∧ lv_has z.2.2.2 6 [(0, .ref (ad 0 0)), (1, .int a1), (2, .int a2), (3, .int a3), (4, .ref (ad 24 0))]) (fun z => x5 z.1) (ρ, σ') ?_ ?_
  · intro hJx5
    dsimp only at hJx5 ⊢
    refine lv_if_eq (pc := 10) (tgt := 17) hx hb dL_withdraw_10 rfl (fun h7 => ?_) (fun h7 => ?_)
    · replace hf := ite_t h7 hf
      refine lv_lconst (pc := 17) (v := 0) hx hb dL_withdraw_17 (by decide) ?_
      have hl := lv_sub hl (l' := [(0, .ref (ad 0 0)), (1, .int a1), (2, .int a2), (3, .int a3), (4, .ref (ad 24 0))]) [0, 1, 2, 3, 4] rfl
      exact hJx5 (0, H, _, ls) ⟨hP, hD, hS, hl⟩ hf
    · replace hf := ite_f h7 hf
      refine lv_lconst (pc := 13) (v := 1) hx hb dL_withdraw_13 (by decide) ?_
      refine lv_goto (pc := 14) (tgt := 18) hx hb dL_withdraw_14 rfl ?_
      have hl := lv_sub hl (l' := [(0, .ref (ad 0 0)), (1, .int a1), (2, .int a2), (3, .int a3), (4, .ref (ad 24 0))]) [0, 1, 2, 3, 4] rfl
      exact hJx5 (1, H, _, ls) ⟨hP, hD, hS, hl⟩ hf
  · rintro ⟨s6, H, locs, ls⟩ ⟨hP, hD, hS, hl⟩ hf
    dsimp only at hP hD hS hl hf ⊢
    rw [hx5] at hf
    have hl : lv_has ls 6 [(0, .ref (ad 0 0)), (1, .int a1), (2, .int a2), (3, .int a3), (4, .ref (ad 24 0))] := hl
    obtain ⟨q9, hq9, eq9⟩ := at_24 (ad := ad) (ca := ca) (σ := σ3) hm4
    refine va_last (D := (dC, dI)) (cl := kCl) (pc := 18) hx hb (hK.2 24 0 .long hm4 rfl) hP hD hS q9 0 eq9 rfl (vp_in_lit 0 1 (by decide)) dL_withdraw_18 (fun H locs hP hD hS => ?_)
    obtain ⟨σ8, hσ8, hf⟩ := lt_9 hf
    obtain ⟨hP, hD⟩ := w9_rL 24 rfl hN hq9 hσ8 (pr_24) hP hD
    have hC : clo dom σ8.2.2 := by rw [hσ8]; exact hC
    refine lv_goto (pc := 19) (tgt := 26) hx hb dL_withdraw_19 rfl ?_
    refine lv_iconst (pc := 26) (v := 0) hx hb dL_withdraw_26 (by decide) ?_
    obtain ⟨h8, h9⟩ := Prod.mk.inj (Option.some.inj hf)
    subst h9
    refine W.widen (k := 1) (n := 6) (Nat.le_of_ble_eq_true rfl) (Nat.le_of_ble_eq_true rfl) ?_
    exact W.iret (pc := 27) hx hb hr (fun t ht hW => ⟨⟨_, (), rfl, h8, by rw [ht]; exact hP, hD, hC⟩, hS.F ht⟩) hS.2.2 dL_withdraw_27
def L_look (n : Nat) (σ : hT) (a1 : Int32) (a2 : Int32) (a3 : Int32) : Option (Int32 × hT) := Option.bind (V_look n σ a1 a2 a3) fun ⟨y2o, σ3⟩ => cx9 y2o (some (1, σ3)) fun y2 => lt9 (sL σ3 24 0 0 ((y2).toInt64)) fun σ5 => some (0, σ5)
set_option maxHeartbeats 4000000 in
set_option maxRecDepth 100000 in
theorem t_L_look (l : Launch) (dC : Nat → ClassId) (dI : Nat → Nat → Nat) (ad : Nat → Nat → Nat) (ca : Nat → Nat → ClassId) (dom : List (Nat × Nat)) (sz : Nat) (n : Nat) (σ : hT) (a1 : Int32) (a2 : Int32) (a3 : Int32) (hm0 : (0, 0) ∈ dom) (hm4 : (24, 0) ∈ dom) (hN : dom.Nodup) (hC : clo dom σ.2.2) (hfl : l.stackTraces = false) (ρ : Int32) (σ' : hT) (hf : L_look n σ a1 a2 a3 = some (ρ, σ')) : Met l yL_look (.codeWith yL_look cL_look 6 (some .int) [(0, 12, 15, 60)] :: aw) ({ frames := 8, cells := 1, slots := 6, locals := 127 }) (hX (dC, dI) sz ad ca dom σ [.ref (ad 0 0), .int a1, .int a2, .int a3, .ref (ad 24 0)]) (va_Qi (fun r (_ : Unit) => r = ρ) (fun _ t => hB (dC, dI) (va_A (w9 ad ca dom σ) sz) ad ca dom σ' t) (va_A (w9 ad ca dom σ) sz)) 1 6 (va_A (w9 ad ca dom σ) sz) := by
  refine va_MetW (hh := [(0, 12, 15, 60)]) (cc := cL_look) (maxL := 6) (ret := (some .int)) (by decide) rfl ?_
  intro p e s m args below meth c s₁ B hml hv
  obtain ⟨rfl, hv⟩ := hv
  obtain ⟨m9, meth9, c9, hn9, g1, g2, -, -, g6, -⟩ := Cond.codeWith_spec (atoms_spec (ws := (.codeWith yL_look cL_look 6 (some .int) [(0, 12, 15, 60)] :: aw)) B.pre _ List.mem_cons_self)
  cases Option.some.inj (hn9.symm.trans B.named)
  cases Option.some.inj (g1.symm.trans B.method)
  cases Option.some.inj (g2.symm.trans (Stand.of_body B).code)
  have htab := tab1 g6
  have hx := B.exec
  have hb := B.bytes
  have hr := B.returns
  have hts : ∀ w ∈ aw, w.before _ s = true := fun w h => atoms_spec (ws := (.codeWith yL_look cL_look 6 (some .int) [(0, 12, 15, 60)] :: aw)) B.pre w (List.mem_cons_of_mem _ h)
  have hown : s.vm.findClass RL = some m.cls := findClass_of_methodNamed B.named
  have hlocks := B.notSynchronized
  obtain ⟨hsz, hP, hK, hD0, hG, hE⟩ := hv
  subst hsz
  have hD := hD0.self (sz := s.heap.size)
  generalize hAe : va_A (w9 ad ca dom σ) s.heap.size = A at hD ⊢
  have hSA : ∀ q : Nat, q < s.heap.size → A q → xS ad dom q := fun q h z => by rw [← hAe] at z; exact w9_xS z h
  have hA : ∀ q : Nat, s.heap.size ≤ q → A q := fun q h => by rw [← hAe]; exact Or.inr h
  obtain ⟨H, hH⟩ : ∃ H, H = s.heap := ⟨_, rfl⟩
  have hS : va_S A s.heap H [] := by rw [hH]; exact va_S.rf
  rw [← hH] at hP ⊢
  unfold L_look at hf
  have hl := lv_entry ([.ref (ad 0 0), .int a1, .int a2, .int a3, .ref (ad 24 0)]) (n := 6) (Nat.le_of_ble_eq_true rfl)
  rw [lg_entry_eq]
  generalize (lg_sl ([.ref (ad 0 0), .int a1, .int a2, .int a3, .ref (ad 24 0)]) ++ List.replicate (6 - (lg_sl ([.ref (ad 0 0), .int a1, .int a2, .int a3, .ref (ad 24 0)])).length) Slot.unset).toArray = ls at hl ⊢
  have hl : lv_has ls 6 [(0, .ref (ad 0 0)), (1, .int a1), (2, .int a2), (3, .int a3), (4, .ref (ad 24 0))] := hl
  refine lv_aload (pc := 0) hx hb dL_look_0 (lv_at hl 4 rfl) ?_
  refine lv_iconst (pc := 2) (v := 0) hx hb dL_look_2 (by decide) ?_
  refine lv_aload_n (pc := 3) hx hb dL_look_3 rfl (lv_at hl 0 rfl) ?_
  refine lv_iload_n (pc := 4) hx hb dL_look_4 rfl (lv_at hl 1 rfl) ?_
  refine lv_iload_n (pc := 5) hx hb dL_look_5 rfl (lv_at hl 2 rfl) ?_
  refine lv_iload_n (pc := 6) hx hb dL_look_6 rfl (lv_at hl 3 rfl) ?_
  obtain ⟨q1, hq1, eq1⟩ := at_0 (ad := ad) (ca := ca) (σ := σ) hm0
  obtain ⟨⟨y2o, σ3⟩, hy2, hf⟩ := ob hf
  rcases y2o with _ | y2
  · replace hf := cx_n hf
    have hFc := w9_free hD hS hA
    refine tCatchV (pc := 7) (As := [.int a1, .int a2, .int a3]) (rest := [.int 0, .ref (ad 24 0)]) (C := RV) (E := nIX) (name := nIX) ⟨hx, hb, hml, hown, hts⟩ (x_V_look l dC dI ad ca dom H.size n σ a1 a2 a3 hm0 hN hC σ3 hfl hy2) (cwV 3 hts (gV wd_742 wd_743 wd_744 wd_254 wd_741) rfl rfl rfl (by decide +kernel) ⟨Nat.le_of_ble_eq_true rfl, Nat.le_of_ble_eq_true rfl⟩) ⟨hX_blind, va_recv (q := (RV, TV, 9)) (q0 := q1) (ci := 0) hK.1 hP rfl eq1, hX_pre hP hK hD hG hE hS hSA⟩ rfl hl.1 rfl (lv_room (Nat.le_of_ble_eq_true rfl)) dL_look_7 ⟨Nat.le_of_ble_eq_true rfl, Nat.le_of_ble_eq_true rfl⟩ htab (by decide) (by decide) (hts _ wd_745) (va_Nw.use rfl hE.1) (fun q4 L9 H1 hq9 hz9 hL9 hB9 hk9 => ?_)
    obtain ⟨hP, hD, hC⟩ := hB9
    replace hD := hD.weaken (fun _ _ _ h => hFc _ h)
    have hS := cS9 hS hz9 hL9 hFc hk9
    generalize H1 = H at hP hS ⊢
    refine W.widen (k := 1) (n := 6) (Nat.le_of_ble_eq_true rfl) (Nat.le_of_ble_eq_true rfl) ?_
    refine lv_astore (pc := 15) hx hb dL_look_15 hl (by decide) rfl (fun ls hl => ?_)
    have hl : lv_has ls 6 [(5, .ref q4), (0, .ref (ad 0 0)), (1, .int a1), (2, .int a2), (3, .int a3), (4, .ref (ad 24 0))] := hl
    refine lv_iconst (pc := 17) (v := 1) hx hb dL_look_17 (by decide) ?_
    obtain ⟨h8, h9⟩ := Prod.mk.inj (Option.some.inj hf)
    subst h9
    exact W.iret (pc := 18) hx hb hr (fun t ht hW => ⟨⟨_, (), rfl, h8, by rw [ht]; exact hP, hD, hC⟩, hS.F ht⟩) hS.2.2 dL_look_18
  replace hf := cx_s hf
  have hFc := w9_free hD hS hA
  refine va_calli (pc := 7) (va_runV (As := [.int a1, .int a2, .int a3]) (rest := [.int 0, .ref (ad 24 0)]) ⟨hx, hb, hml, hown, hts⟩ (t_V_look l dC dI ad ca dom H.size n σ a1 a2 a3 hm0 hN hC y2 σ3 hy2) (cwV 3 hts (gV wd_742 wd_743 wd_744 wd_254 wd_741) rfl rfl rfl (by decide +kernel) ⟨Nat.le_of_ble_eq_true rfl, Nat.le_of_ble_eq_true rfl⟩) ⟨hW_blind, va_recv (q := (RV, TV, 9)) (q0 := q1) (ci := 0) hK.1 hP rfl eq1, hW_pre hP hK hD hG⟩ rfl rfl hl.1 rfl (lv_room (Nat.le_of_ble_eq_true rfl)) dL_look_7 ⟨Nat.le_of_ble_eq_true rfl, Nat.le_of_ble_eq_true rfl⟩) hS (fun q _ h => hFc q h) hFc (fun r9 u t H1 locs ht hvm hr9 hB hz1 hk1 hS => ?_)
  obtain ⟨hP, hD, hC⟩ := hB
  rw [ht] at hP
  replace hD := hD.weaken (fun _ _ _ h => hFc _ h)
  generalize H1 = H at hP hS ⊢
  refine W.eq (g2 := F0 m 10 ls [.int y2, .int 0, .ref (ad 24 0)]) (by rw [hr9]) ?_
  refine lv_i2l (pc := 10) hx hb dL_look_10 rfl ?_
  obtain ⟨q6, hq6, eq6⟩ := at_24 (ad := ad) (ca := ca) (σ := σ3) hm4
  refine va_last (D := (dC, dI)) (cl := kCl) (pc := 11) hx hb (hK.2 24 0 .long hm4 rfl) hP hD hS q6 0 eq6 rfl (vp_in_lit 0 1 (by decide)) dL_look_11 (fun H locs hP hD hS => ?_)
  obtain ⟨σ5, hσ5, hf⟩ := lt_9 hf
  obtain ⟨hP, hD⟩ := w9_rL 24 rfl hN hq6 hσ5 (pr_24) hP hD
  have hC : clo dom σ5.2.2 := by rw [hσ5]; exact hC
  refine lv_goto (pc := 12) (tgt := 19) hx hb dL_look_12 rfl ?_
  refine lv_iconst (pc := 19) (v := 0) hx hb dL_look_19 (by decide) ?_
  obtain ⟨h8, h9⟩ := Prod.mk.inj (Option.some.inj hf)
  subst h9
  refine W.widen (k := 1) (n := 6) (Nat.le_of_ble_eq_true rfl) (Nat.le_of_ble_eq_true rfl) ?_
  exact W.iret (pc := 20) hx hb hr (fun t ht hW => ⟨⟨_, (), rfl, h8, by rw [ht]; exact hP, hD, hC⟩, hS.F ht⟩) hS.2.2 dL_look_20
def L_reference (n : Nat) (σ : hT) (a1 : Int32) (a2 : Int32) (a3 : Int32) (a4 : Int32) : Option (Int32 × hT) := Option.bind (V_reference n σ a1 a2 a3 a4) fun ⟨y2o, σ3⟩ => cx9 y2o (some (1, σ3)) fun y2 => lt9 (sL σ3 24 0 0 ((y2).toInt64)) fun σ5 => some (0, σ5)
set_option maxHeartbeats 4000000 in
set_option maxRecDepth 100000 in
theorem t_L_reference (l : Launch) (dC : Nat → ClassId) (dI : Nat → Nat → Nat) (ad : Nat → Nat → Nat) (ca : Nat → Nat → ClassId) (dom : List (Nat × Nat)) (sz : Nat) (n : Nat) (σ : hT) (a1 : Int32) (a2 : Int32) (a3 : Int32) (a4 : Int32) (hm0 : (0, 0) ∈ dom) (hm5 : (24, 0) ∈ dom) (hN : dom.Nodup) (hC : clo dom σ.2.2) (hfl : l.stackTraces = false) (ρ : Int32) (σ' : hT) (hf : L_reference n σ a1 a2 a3 a4 = some (ρ, σ')) : Met l yL_reference (.codeWith yL_reference cL_reference 7 (some .int) [(0, 14, 17, 60)] :: aw) ({ frames := 7, cells := 1, slots := 6, locals := 108 }) (hX (dC, dI) sz ad ca dom σ [.ref (ad 0 0), .int a1, .int a2, .int a3, .int a4, .ref (ad 24 0)]) (va_Qi (fun r (_ : Unit) => r = ρ) (fun _ t => hB (dC, dI) (va_A (w9 ad ca dom σ) sz) ad ca dom σ' t) (va_A (w9 ad ca dom σ) sz)) 1 6 (va_A (w9 ad ca dom σ) sz) := by
  refine va_MetW (hh := [(0, 14, 17, 60)]) (cc := cL_reference) (maxL := 7) (ret := (some .int)) (by decide) rfl ?_
  intro p e s m args below meth c s₁ B hml hv
  obtain ⟨rfl, hv⟩ := hv
  obtain ⟨m9, meth9, c9, hn9, g1, g2, -, -, g6, -⟩ := Cond.codeWith_spec (atoms_spec (ws := (.codeWith yL_reference cL_reference 7 (some .int) [(0, 14, 17, 60)] :: aw)) B.pre _ List.mem_cons_self)
  cases Option.some.inj (hn9.symm.trans B.named)
  cases Option.some.inj (g1.symm.trans B.method)
  cases Option.some.inj (g2.symm.trans (Stand.of_body B).code)
  have htab := tab1 g6
  have hx := B.exec
  have hb := B.bytes
  have hr := B.returns
  have hts : ∀ w ∈ aw, w.before _ s = true := fun w h => atoms_spec (ws := (.codeWith yL_reference cL_reference 7 (some .int) [(0, 14, 17, 60)] :: aw)) B.pre w (List.mem_cons_of_mem _ h)
  have hown : s.vm.findClass RL = some m.cls := findClass_of_methodNamed B.named
  have hlocks := B.notSynchronized
  obtain ⟨hsz, hP, hK, hD0, hG, hE⟩ := hv
  subst hsz
  have hD := hD0.self (sz := s.heap.size)
  generalize hAe : va_A (w9 ad ca dom σ) s.heap.size = A at hD ⊢
  have hSA : ∀ q : Nat, q < s.heap.size → A q → xS ad dom q := fun q h z => by rw [← hAe] at z; exact w9_xS z h
  have hA : ∀ q : Nat, s.heap.size ≤ q → A q := fun q h => by rw [← hAe]; exact Or.inr h
  obtain ⟨H, hH⟩ : ∃ H, H = s.heap := ⟨_, rfl⟩
  have hS : va_S A s.heap H [] := by rw [hH]; exact va_S.rf
  rw [← hH] at hP ⊢
  unfold L_reference at hf
  have hl := lv_entry ([.ref (ad 0 0), .int a1, .int a2, .int a3, .int a4, .ref (ad 24 0)]) (n := 7) (Nat.le_of_ble_eq_true rfl)
  rw [lg_entry_eq]
  generalize (lg_sl ([.ref (ad 0 0), .int a1, .int a2, .int a3, .int a4, .ref (ad 24 0)]) ++ List.replicate (7 - (lg_sl ([.ref (ad 0 0), .int a1, .int a2, .int a3, .int a4, .ref (ad 24 0)])).length) Slot.unset).toArray = ls at hl ⊢
  have hl : lv_has ls 7 [(0, .ref (ad 0 0)), (1, .int a1), (2, .int a2), (3, .int a3), (4, .int a4), (5, .ref (ad 24 0))] := hl
  refine lv_aload (pc := 0) hx hb dL_reference_0 (lv_at hl 5 rfl) ?_
  refine lv_iconst (pc := 2) (v := 0) hx hb dL_reference_2 (by decide) ?_
  refine lv_aload_n (pc := 3) hx hb dL_reference_3 rfl (lv_at hl 0 rfl) ?_
  refine lv_iload_n (pc := 4) hx hb dL_reference_4 rfl (lv_at hl 1 rfl) ?_
  refine lv_iload_n (pc := 5) hx hb dL_reference_5 rfl (lv_at hl 2 rfl) ?_
  refine lv_iload_n (pc := 6) hx hb dL_reference_6 rfl (lv_at hl 3 rfl) ?_
  refine lv_iload (pc := 7) hx hb dL_reference_7 (lv_at hl 4 rfl) ?_
  obtain ⟨q1, hq1, eq1⟩ := at_0 (ad := ad) (ca := ca) (σ := σ) hm0
  obtain ⟨⟨y2o, σ3⟩, hy2, hf⟩ := ob hf
  rcases y2o with _ | y2
  · replace hf := cx_n hf
    have hFc := w9_free hD hS hA
    refine tCatchV (pc := 9) (As := [.int a1, .int a2, .int a3, .int a4]) (rest := [.int 0, .ref (ad 24 0)]) (C := RV) (E := nIX) (name := nIX) ⟨hx, hb, hml, hown, hts⟩ (x_V_reference l dC dI ad ca dom H.size n σ a1 a2 a3 a4 hm0 hN hC σ3 hfl hy2) (cwV 4 hts (gV wd_747 wd_748 wd_749 wd_254 wd_746) rfl rfl rfl (by decide +kernel) ⟨Nat.le_of_ble_eq_true rfl, Nat.le_of_ble_eq_true rfl⟩) ⟨hX_blind, va_recv (q := (RV, TV, 9)) (q0 := q1) (ci := 0) hK.1 hP rfl eq1, hX_pre hP hK hD hG hE hS hSA⟩ rfl hl.1 rfl (lv_room (Nat.le_of_ble_eq_true rfl)) dL_reference_9 ⟨Nat.le_of_ble_eq_true rfl, Nat.le_of_ble_eq_true rfl⟩ htab (by decide) (by decide) (hts _ wd_745) (va_Nw.use rfl hE.1) (fun q4 L9 H1 hq9 hz9 hL9 hB9 hk9 => ?_)
    obtain ⟨hP, hD, hC⟩ := hB9
    replace hD := hD.weaken (fun _ _ _ h => hFc _ h)
    have hS := cS9 hS hz9 hL9 hFc hk9
    generalize H1 = H at hP hS ⊢
    refine W.widen (k := 1) (n := 6) (Nat.le_of_ble_eq_true rfl) (Nat.le_of_ble_eq_true rfl) ?_
    refine lv_astore (pc := 17) hx hb dL_reference_17 hl (by decide) rfl (fun ls hl => ?_)
    have hl : lv_has ls 7 [(6, .ref q4), (0, .ref (ad 0 0)), (1, .int a1), (2, .int a2), (3, .int a3), (4, .int a4), (5, .ref (ad 24 0))] := hl
    refine lv_iconst (pc := 19) (v := 1) hx hb dL_reference_19 (by decide) ?_
    obtain ⟨h8, h9⟩ := Prod.mk.inj (Option.some.inj hf)
    subst h9
    exact W.iret (pc := 20) hx hb hr (fun t ht hW => ⟨⟨_, (), rfl, h8, by rw [ht]; exact hP, hD, hC⟩, hS.F ht⟩) hS.2.2 dL_reference_20
  replace hf := cx_s hf
  have hFc := w9_free hD hS hA
  refine va_calli (pc := 9) (va_runV (As := [.int a1, .int a2, .int a3, .int a4]) (rest := [.int 0, .ref (ad 24 0)]) ⟨hx, hb, hml, hown, hts⟩ (t_V_reference l dC dI ad ca dom H.size n σ a1 a2 a3 a4 hm0 hN hC y2 σ3 hy2) (cwV 4 hts (gV wd_747 wd_748 wd_749 wd_254 wd_746) rfl rfl rfl (by decide +kernel) ⟨Nat.le_of_ble_eq_true rfl, Nat.le_of_ble_eq_true rfl⟩) ⟨hW_blind, va_recv (q := (RV, TV, 9)) (q0 := q1) (ci := 0) hK.1 hP rfl eq1, hW_pre hP hK hD hG⟩ rfl rfl hl.1 rfl (lv_room (Nat.le_of_ble_eq_true rfl)) dL_reference_9 ⟨Nat.le_of_ble_eq_true rfl, Nat.le_of_ble_eq_true rfl⟩) hS (fun q _ h => hFc q h) hFc (fun r9 u t H1 locs ht hvm hr9 hB hz1 hk1 hS => ?_)
  obtain ⟨hP, hD, hC⟩ := hB
  rw [ht] at hP
  replace hD := hD.weaken (fun _ _ _ h => hFc _ h)
  generalize H1 = H at hP hS ⊢
  refine W.eq (g2 := F0 m 12 ls [.int y2, .int 0, .ref (ad 24 0)]) (by rw [hr9]) ?_
  refine lv_i2l (pc := 12) hx hb dL_reference_12 rfl ?_
  obtain ⟨q6, hq6, eq6⟩ := at_24 (ad := ad) (ca := ca) (σ := σ3) hm5
  refine va_last (D := (dC, dI)) (cl := kCl) (pc := 13) hx hb (hK.2 24 0 .long hm5 rfl) hP hD hS q6 0 eq6 rfl (vp_in_lit 0 1 (by decide)) dL_reference_13 (fun H locs hP hD hS => ?_)
  obtain ⟨σ5, hσ5, hf⟩ := lt_9 hf
  obtain ⟨hP, hD⟩ := w9_rL 24 rfl hN hq6 hσ5 (pr_24) hP hD
  have hC : clo dom σ5.2.2 := by rw [hσ5]; exact hC
  refine lv_goto (pc := 14) (tgt := 21) hx hb dL_reference_14 rfl ?_
  refine lv_iconst (pc := 21) (v := 0) hx hb dL_reference_21 (by decide) ?_
  obtain ⟨h8, h9⟩ := Prod.mk.inj (Option.some.inj hf)
  subst h9
  refine W.widen (k := 1) (n := 6) (Nat.le_of_ble_eq_true rfl) (Nat.le_of_ble_eq_true rfl) ?_
  exact W.iret (pc := 22) hx hb hr (fun t ht hW => ⟨⟨_, (), rfl, h8, by rw [ht]; exact hP, hD, hC⟩, hS.F ht⟩) hS.2.2 dL_reference_22
def L_about (n : Nat) (σ : hT) (a1 : Int32) (a2 : Int32) : Option (Int32 × hT) := Option.bind (V_about n σ a1 a2) fun ⟨y2o, σ3⟩ => cx9 y2o (some (1, σ3)) fun y2 => lt9 (sL σ3 24 0 0 ((y2).toInt64)) fun σ5 => some (0, σ5)
set_option maxHeartbeats 4000000 in
set_option maxRecDepth 100000 in
theorem t_L_about (l : Launch) (dC : Nat → ClassId) (dI : Nat → Nat → Nat) (ad : Nat → Nat → Nat) (ca : Nat → Nat → ClassId) (dom : List (Nat × Nat)) (sz : Nat) (n : Nat) (σ : hT) (a1 : Int32) (a2 : Int32) (hm0 : (0, 0) ∈ dom) (hm3 : (24, 0) ∈ dom) (hN : dom.Nodup) (hC : clo dom σ.2.2) (hfl : l.stackTraces = false) (ρ : Int32) (σ' : hT) (hf : L_about n σ a1 a2 = some (ρ, σ')) : Met l yL_about (.codeWith yL_about cL_about 5 (some .int) [(0, 10, 13, 60)] :: aw) ({ frames := 8, cells := 1, slots := 6, locals := 127 }) (hX (dC, dI) sz ad ca dom σ [.ref (ad 0 0), .int a1, .int a2, .ref (ad 24 0)]) (va_Qi (fun r (_ : Unit) => r = ρ) (fun _ t => hB (dC, dI) (va_A (w9 ad ca dom σ) sz) ad ca dom σ' t) (va_A (w9 ad ca dom σ) sz)) 1 6 (va_A (w9 ad ca dom σ) sz) := by
  refine va_MetW (hh := [(0, 10, 13, 60)]) (cc := cL_about) (maxL := 5) (ret := (some .int)) (by decide) rfl ?_
  intro p e s m args below meth c s₁ B hml hv
  obtain ⟨rfl, hv⟩ := hv
  obtain ⟨m9, meth9, c9, hn9, g1, g2, -, -, g6, -⟩ := Cond.codeWith_spec (atoms_spec (ws := (.codeWith yL_about cL_about 5 (some .int) [(0, 10, 13, 60)] :: aw)) B.pre _ List.mem_cons_self)
  cases Option.some.inj (hn9.symm.trans B.named)
  cases Option.some.inj (g1.symm.trans B.method)
  cases Option.some.inj (g2.symm.trans (Stand.of_body B).code)
  have htab := tab1 g6
  have hx := B.exec
  have hb := B.bytes
  have hr := B.returns
  have hts : ∀ w ∈ aw, w.before _ s = true := fun w h => atoms_spec (ws := (.codeWith yL_about cL_about 5 (some .int) [(0, 10, 13, 60)] :: aw)) B.pre w (List.mem_cons_of_mem _ h)
  have hown : s.vm.findClass RL = some m.cls := findClass_of_methodNamed B.named
  have hlocks := B.notSynchronized
  obtain ⟨hsz, hP, hK, hD0, hG, hE⟩ := hv
  subst hsz
  have hD := hD0.self (sz := s.heap.size)
  generalize hAe : va_A (w9 ad ca dom σ) s.heap.size = A at hD ⊢
  have hSA : ∀ q : Nat, q < s.heap.size → A q → xS ad dom q := fun q h z => by rw [← hAe] at z; exact w9_xS z h
  have hA : ∀ q : Nat, s.heap.size ≤ q → A q := fun q h => by rw [← hAe]; exact Or.inr h
  obtain ⟨H, hH⟩ : ∃ H, H = s.heap := ⟨_, rfl⟩
  have hS : va_S A s.heap H [] := by rw [hH]; exact va_S.rf
  rw [← hH] at hP ⊢
  unfold L_about at hf
  have hl := lv_entry ([.ref (ad 0 0), .int a1, .int a2, .ref (ad 24 0)]) (n := 5) (Nat.le_of_ble_eq_true rfl)
  rw [lg_entry_eq]
  generalize (lg_sl ([.ref (ad 0 0), .int a1, .int a2, .ref (ad 24 0)]) ++ List.replicate (5 - (lg_sl ([.ref (ad 0 0), .int a1, .int a2, .ref (ad 24 0)])).length) Slot.unset).toArray = ls at hl ⊢
  have hl : lv_has ls 5 [(0, .ref (ad 0 0)), (1, .int a1), (2, .int a2), (3, .ref (ad 24 0))] := hl
  refine lv_aload_n (pc := 0) hx hb dL_about_0 rfl (lv_at hl 3 rfl) ?_
  refine lv_iconst (pc := 1) (v := 0) hx hb dL_about_1 (by decide) ?_
  refine lv_aload_n (pc := 2) hx hb dL_about_2 rfl (lv_at hl 0 rfl) ?_
  refine lv_iload_n (pc := 3) hx hb dL_about_3 rfl (lv_at hl 1 rfl) ?_
  refine lv_iload_n (pc := 4) hx hb dL_about_4 rfl (lv_at hl 2 rfl) ?_
  obtain ⟨q1, hq1, eq1⟩ := at_0 (ad := ad) (ca := ca) (σ := σ) hm0
  obtain ⟨⟨y2o, σ3⟩, hy2, hf⟩ := ob hf
  rcases y2o with _ | y2
  · replace hf := cx_n hf
    have hFc := w9_free hD hS hA
    refine tCatchV (pc := 5) (As := [.int a1, .int a2]) (rest := [.int 0, .ref (ad 24 0)]) (C := RV) (E := nIX) (name := nIX) ⟨hx, hb, hml, hown, hts⟩ (x_V_about l dC dI ad ca dom H.size n σ a1 a2 hm0 hN hC σ3 hfl hy2) (cwV 2 hts (gV wd_751 wd_752 wd_753 wd_254 wd_750) rfl rfl rfl (by decide +kernel) ⟨Nat.le_of_ble_eq_true rfl, Nat.le_of_ble_eq_true rfl⟩) ⟨hX_blind, va_recv (q := (RV, TV, 9)) (q0 := q1) (ci := 0) hK.1 hP rfl eq1, hX_pre hP hK hD hG hE hS hSA⟩ rfl hl.1 rfl (lv_room (Nat.le_of_ble_eq_true rfl)) dL_about_5 ⟨Nat.le_of_ble_eq_true rfl, Nat.le_of_ble_eq_true rfl⟩ htab (by decide) (by decide) (hts _ wd_745) (va_Nw.use rfl hE.1) (fun q4 L9 H1 hq9 hz9 hL9 hB9 hk9 => ?_)
    obtain ⟨hP, hD, hC⟩ := hB9
    replace hD := hD.weaken (fun _ _ _ h => hFc _ h)
    have hS := cS9 hS hz9 hL9 hFc hk9
    generalize H1 = H at hP hS ⊢
    refine W.widen (k := 1) (n := 6) (Nat.le_of_ble_eq_true rfl) (Nat.le_of_ble_eq_true rfl) ?_
    refine lv_astore (pc := 13) hx hb dL_about_13 hl (by decide) rfl (fun ls hl => ?_)
    have hl : lv_has ls 5 [(4, .ref q4), (0, .ref (ad 0 0)), (1, .int a1), (2, .int a2), (3, .ref (ad 24 0))] := hl
    refine lv_iconst (pc := 15) (v := 1) hx hb dL_about_15 (by decide) ?_
    obtain ⟨h8, h9⟩ := Prod.mk.inj (Option.some.inj hf)
    subst h9
    exact W.iret (pc := 16) hx hb hr (fun t ht hW => ⟨⟨_, (), rfl, h8, by rw [ht]; exact hP, hD, hC⟩, hS.F ht⟩) hS.2.2 dL_about_16
  replace hf := cx_s hf
  have hFc := w9_free hD hS hA
  refine va_calli (pc := 5) (va_runV (As := [.int a1, .int a2]) (rest := [.int 0, .ref (ad 24 0)]) ⟨hx, hb, hml, hown, hts⟩ (t_V_about l dC dI ad ca dom H.size n σ a1 a2 hm0 hN hC y2 σ3 hy2) (cwV 2 hts (gV wd_751 wd_752 wd_753 wd_254 wd_750) rfl rfl rfl (by decide +kernel) ⟨Nat.le_of_ble_eq_true rfl, Nat.le_of_ble_eq_true rfl⟩) ⟨hW_blind, va_recv (q := (RV, TV, 9)) (q0 := q1) (ci := 0) hK.1 hP rfl eq1, hW_pre hP hK hD hG⟩ rfl rfl hl.1 rfl (lv_room (Nat.le_of_ble_eq_true rfl)) dL_about_5 ⟨Nat.le_of_ble_eq_true rfl, Nat.le_of_ble_eq_true rfl⟩) hS (fun q _ h => hFc q h) hFc (fun r9 u t H1 locs ht hvm hr9 hB hz1 hk1 hS => ?_)
  obtain ⟨hP, hD, hC⟩ := hB
  rw [ht] at hP
  replace hD := hD.weaken (fun _ _ _ h => hFc _ h)
  generalize H1 = H at hP hS ⊢
  refine W.eq (g2 := F0 m 8 ls [.int y2, .int 0, .ref (ad 24 0)]) (by rw [hr9]) ?_
  refine lv_i2l (pc := 8) hx hb dL_about_8 rfl ?_
  obtain ⟨q6, hq6, eq6⟩ := at_24 (ad := ad) (ca := ca) (σ := σ3) hm3
  refine va_last (D := (dC, dI)) (cl := kCl) (pc := 9) hx hb (hK.2 24 0 .long hm3 rfl) hP hD hS q6 0 eq6 rfl (vp_in_lit 0 1 (by decide)) dL_about_9 (fun H locs hP hD hS => ?_)
  obtain ⟨σ5, hσ5, hf⟩ := lt_9 hf
  obtain ⟨hP, hD⟩ := w9_rL 24 rfl hN hq6 hσ5 (pr_24) hP hD
  have hC : clo dom σ5.2.2 := by rw [hσ5]; exact hC
  refine lv_goto (pc := 10) (tgt := 17) hx hb dL_about_10 rfl ?_
  refine lv_iconst (pc := 17) (v := 0) hx hb dL_about_17 (by decide) ?_
  obtain ⟨h8, h9⟩ := Prod.mk.inj (Option.some.inj hf)
  subst h9
  refine W.widen (k := 1) (n := 6) (Nat.le_of_ble_eq_true rfl) (Nat.le_of_ble_eq_true rfl) ?_
  exact W.iret (pc := 18) hx hb hr (fun t ht hW => ⟨⟨_, (), rfl, h8, by rw [ht]; exact hP, hD, hC⟩, hS.F ht⟩) hS.2.2 dL_about_18
def L_inBaseline (n : Nat) (σ : hT) (a1 : Int32) (a2 : Int32) (a3 : Int32) : Option (Int32 × hT) := Option.bind (V_inBaseline n σ a1 a2 a3) fun ⟨y2o, σ3⟩ => cx9 y2o (some (1, σ3)) fun y2 => lt9 (sL σ3 24 0 0 ((y2).toInt64)) fun σ5 => some (0, σ5)
set_option maxHeartbeats 4000000 in
set_option maxRecDepth 100000 in
theorem t_L_inBaseline (l : Launch) (dC : Nat → ClassId) (dI : Nat → Nat → Nat) (ad : Nat → Nat → Nat) (ca : Nat → Nat → ClassId) (dom : List (Nat × Nat)) (sz : Nat) (n : Nat) (σ : hT) (a1 : Int32) (a2 : Int32) (a3 : Int32) (hm0 : (0, 0) ∈ dom) (hm4 : (24, 0) ∈ dom) (hN : dom.Nodup) (hC : clo dom σ.2.2) (hfl : l.stackTraces = false) (ρ : Int32) (σ' : hT) (hf : L_inBaseline n σ a1 a2 a3 = some (ρ, σ')) : Met l yL_inBaseline (.codeWith yL_inBaseline cL_inBaseline 6 (some .int) [(0, 12, 15, 60)] :: aw) ({ frames := 7, cells := 1, slots := 6, locals := 106 }) (hX (dC, dI) sz ad ca dom σ [.ref (ad 0 0), .int a1, .int a2, .int a3, .ref (ad 24 0)]) (va_Qi (fun r (_ : Unit) => r = ρ) (fun _ t => hB (dC, dI) (va_A (w9 ad ca dom σ) sz) ad ca dom σ' t) (va_A (w9 ad ca dom σ) sz)) 1 6 (va_A (w9 ad ca dom σ) sz) := by
  refine va_MetW (hh := [(0, 12, 15, 60)]) (cc := cL_inBaseline) (maxL := 6) (ret := (some .int)) (by decide) rfl ?_
  intro p e s m args below meth c s₁ B hml hv
  obtain ⟨rfl, hv⟩ := hv
  obtain ⟨m9, meth9, c9, hn9, g1, g2, -, -, g6, -⟩ := Cond.codeWith_spec (atoms_spec (ws := (.codeWith yL_inBaseline cL_inBaseline 6 (some .int) [(0, 12, 15, 60)] :: aw)) B.pre _ List.mem_cons_self)
  cases Option.some.inj (hn9.symm.trans B.named)
  cases Option.some.inj (g1.symm.trans B.method)
  cases Option.some.inj (g2.symm.trans (Stand.of_body B).code)
  have htab := tab1 g6
  have hx := B.exec
  have hb := B.bytes
  have hr := B.returns
  have hts : ∀ w ∈ aw, w.before _ s = true := fun w h => atoms_spec (ws := (.codeWith yL_inBaseline cL_inBaseline 6 (some .int) [(0, 12, 15, 60)] :: aw)) B.pre w (List.mem_cons_of_mem _ h)
  have hown : s.vm.findClass RL = some m.cls := findClass_of_methodNamed B.named
  have hlocks := B.notSynchronized
  obtain ⟨hsz, hP, hK, hD0, hG, hE⟩ := hv
  subst hsz
  have hD := hD0.self (sz := s.heap.size)
  generalize hAe : va_A (w9 ad ca dom σ) s.heap.size = A at hD ⊢
  have hSA : ∀ q : Nat, q < s.heap.size → A q → xS ad dom q := fun q h z => by rw [← hAe] at z; exact w9_xS z h
  have hA : ∀ q : Nat, s.heap.size ≤ q → A q := fun q h => by rw [← hAe]; exact Or.inr h
  obtain ⟨H, hH⟩ : ∃ H, H = s.heap := ⟨_, rfl⟩
  have hS : va_S A s.heap H [] := by rw [hH]; exact va_S.rf
  rw [← hH] at hP ⊢
  unfold L_inBaseline at hf
  have hl := lv_entry ([.ref (ad 0 0), .int a1, .int a2, .int a3, .ref (ad 24 0)]) (n := 6) (Nat.le_of_ble_eq_true rfl)
  rw [lg_entry_eq]
  generalize (lg_sl ([.ref (ad 0 0), .int a1, .int a2, .int a3, .ref (ad 24 0)]) ++ List.replicate (6 - (lg_sl ([.ref (ad 0 0), .int a1, .int a2, .int a3, .ref (ad 24 0)])).length) Slot.unset).toArray = ls at hl ⊢
  have hl : lv_has ls 6 [(0, .ref (ad 0 0)), (1, .int a1), (2, .int a2), (3, .int a3), (4, .ref (ad 24 0))] := hl
  refine lv_aload (pc := 0) hx hb dL_inBaseline_0 (lv_at hl 4 rfl) ?_
  refine lv_iconst (pc := 2) (v := 0) hx hb dL_inBaseline_2 (by decide) ?_
  refine lv_aload_n (pc := 3) hx hb dL_inBaseline_3 rfl (lv_at hl 0 rfl) ?_
  refine lv_iload_n (pc := 4) hx hb dL_inBaseline_4 rfl (lv_at hl 1 rfl) ?_
  refine lv_iload_n (pc := 5) hx hb dL_inBaseline_5 rfl (lv_at hl 2 rfl) ?_
  refine lv_iload_n (pc := 6) hx hb dL_inBaseline_6 rfl (lv_at hl 3 rfl) ?_
  obtain ⟨q1, hq1, eq1⟩ := at_0 (ad := ad) (ca := ca) (σ := σ) hm0
  obtain ⟨⟨y2o, σ3⟩, hy2, hf⟩ := ob hf
  rcases y2o with _ | y2
  · replace hf := cx_n hf
    have hFc := w9_free hD hS hA
    refine tCatchV (pc := 7) (As := [.int a1, .int a2, .int a3]) (rest := [.int 0, .ref (ad 24 0)]) (C := RV) (E := nIX) (name := nIX) ⟨hx, hb, hml, hown, hts⟩ (x_V_inBaseline l dC dI ad ca dom H.size n σ a1 a2 a3 hm0 hN hC σ3 hfl hy2) (cwV 3 hts (gV wd_755 wd_756 wd_757 wd_254 wd_754) rfl rfl rfl (by decide +kernel) ⟨Nat.le_of_ble_eq_true rfl, Nat.le_of_ble_eq_true rfl⟩) ⟨hX_blind, va_recv (q := (RV, TV, 9)) (q0 := q1) (ci := 0) hK.1 hP rfl eq1, hX_pre hP hK hD hG hE hS hSA⟩ rfl hl.1 rfl (lv_room (Nat.le_of_ble_eq_true rfl)) dL_inBaseline_7 ⟨Nat.le_of_ble_eq_true rfl, Nat.le_of_ble_eq_true rfl⟩ htab (by decide) (by decide) (hts _ wd_745) (va_Nw.use rfl hE.1) (fun q4 L9 H1 hq9 hz9 hL9 hB9 hk9 => ?_)
    obtain ⟨hP, hD, hC⟩ := hB9
    replace hD := hD.weaken (fun _ _ _ h => hFc _ h)
    have hS := cS9 hS hz9 hL9 hFc hk9
    generalize H1 = H at hP hS ⊢
    refine W.widen (k := 1) (n := 6) (Nat.le_of_ble_eq_true rfl) (Nat.le_of_ble_eq_true rfl) ?_
    refine lv_astore (pc := 15) hx hb dL_inBaseline_15 hl (by decide) rfl (fun ls hl => ?_)
    have hl : lv_has ls 6 [(5, .ref q4), (0, .ref (ad 0 0)), (1, .int a1), (2, .int a2), (3, .int a3), (4, .ref (ad 24 0))] := hl
    refine lv_iconst (pc := 17) (v := 1) hx hb dL_inBaseline_17 (by decide) ?_
    obtain ⟨h8, h9⟩ := Prod.mk.inj (Option.some.inj hf)
    subst h9
    exact W.iret (pc := 18) hx hb hr (fun t ht hW => ⟨⟨_, (), rfl, h8, by rw [ht]; exact hP, hD, hC⟩, hS.F ht⟩) hS.2.2 dL_inBaseline_18
  replace hf := cx_s hf
  have hFc := w9_free hD hS hA
  refine va_calli (pc := 7) (va_runV (As := [.int a1, .int a2, .int a3]) (rest := [.int 0, .ref (ad 24 0)]) ⟨hx, hb, hml, hown, hts⟩ (t_V_inBaseline l dC dI ad ca dom H.size n σ a1 a2 a3 hm0 hN hC y2 σ3 hy2) (cwV 3 hts (gV wd_755 wd_756 wd_757 wd_254 wd_754) rfl rfl rfl (by decide +kernel) ⟨Nat.le_of_ble_eq_true rfl, Nat.le_of_ble_eq_true rfl⟩) ⟨hW_blind, va_recv (q := (RV, TV, 9)) (q0 := q1) (ci := 0) hK.1 hP rfl eq1, hW_pre hP hK hD hG⟩ rfl rfl hl.1 rfl (lv_room (Nat.le_of_ble_eq_true rfl)) dL_inBaseline_7 ⟨Nat.le_of_ble_eq_true rfl, Nat.le_of_ble_eq_true rfl⟩) hS (fun q _ h => hFc q h) hFc (fun r9 u t H1 locs ht hvm hr9 hB hz1 hk1 hS => ?_)
  obtain ⟨hP, hD, hC⟩ := hB
  rw [ht] at hP
  replace hD := hD.weaken (fun _ _ _ h => hFc _ h)
  generalize H1 = H at hP hS ⊢
  refine W.eq (g2 := F0 m 10 ls [.int y2, .int 0, .ref (ad 24 0)]) (by rw [hr9]) ?_
  refine lv_i2l (pc := 10) hx hb dL_inBaseline_10 rfl ?_
  obtain ⟨q6, hq6, eq6⟩ := at_24 (ad := ad) (ca := ca) (σ := σ3) hm4
  refine va_last (D := (dC, dI)) (cl := kCl) (pc := 11) hx hb (hK.2 24 0 .long hm4 rfl) hP hD hS q6 0 eq6 rfl (vp_in_lit 0 1 (by decide)) dL_inBaseline_11 (fun H locs hP hD hS => ?_)
  obtain ⟨σ5, hσ5, hf⟩ := lt_9 hf
  obtain ⟨hP, hD⟩ := w9_rL 24 rfl hN hq6 hσ5 (pr_24) hP hD
  have hC : clo dom σ5.2.2 := by rw [hσ5]; exact hC
  refine lv_goto (pc := 12) (tgt := 19) hx hb dL_inBaseline_12 rfl ?_
  refine lv_iconst (pc := 19) (v := 0) hx hb dL_inBaseline_19 (by decide) ?_
  obtain ⟨h8, h9⟩ := Prod.mk.inj (Option.some.inj hf)
  subst h9
  refine W.widen (k := 1) (n := 6) (Nat.le_of_ble_eq_true rfl) (Nat.le_of_ble_eq_true rfl) ?_
  exact W.iret (pc := 20) hx hb hr (fun t ht hW => ⟨⟨_, (), rfl, h8, by rw [ht]; exact hP, hD, hC⟩, hS.F ht⟩) hS.2.2 dL_inBaseline_20
def L_difference (n : Nat) (σ : hT) (a1 : Int32) (a2 : Int32) (a3 : Int32) (a4 : Int32) : Option (Int32 × hT) := Option.bind (V_difference n σ a1 a2 a3 a4) fun ⟨y2o, σ3⟩ => cx9 y2o (some (1, σ3)) fun y2 => lt9 (sL σ3 24 0 0 ((y2).toInt64)) fun σ5 => some (0, σ5)
set_option maxHeartbeats 4000000 in
set_option maxRecDepth 100000 in
theorem t_L_difference (l : Launch) (dC : Nat → ClassId) (dI : Nat → Nat → Nat) (ad : Nat → Nat → Nat) (ca : Nat → Nat → ClassId) (dom : List (Nat × Nat)) (sz : Nat) (n : Nat) (σ : hT) (a1 : Int32) (a2 : Int32) (a3 : Int32) (a4 : Int32) (hm0 : (0, 0) ∈ dom) (hm5 : (24, 0) ∈ dom) (hN : dom.Nodup) (hC : clo dom σ.2.2) (hfl : l.stackTraces = false) (ρ : Int32) (σ' : hT) (hf : L_difference n σ a1 a2 a3 a4 = some (ρ, σ')) : Met l yL_difference (.codeWith yL_difference cL_difference 7 (some .int) [(0, 14, 17, 60)] :: aw) ({ frames := 7, cells := 1, slots := 6, locals := 109 }) (hX (dC, dI) sz ad ca dom σ [.ref (ad 0 0), .int a1, .int a2, .int a3, .int a4, .ref (ad 24 0)]) (va_Qi (fun r (_ : Unit) => r = ρ) (fun _ t => hB (dC, dI) (va_A (w9 ad ca dom σ) sz) ad ca dom σ' t) (va_A (w9 ad ca dom σ) sz)) 1 6 (va_A (w9 ad ca dom σ) sz) := by
  refine va_MetW (hh := [(0, 14, 17, 60)]) (cc := cL_difference) (maxL := 7) (ret := (some .int)) (by decide) rfl ?_
  intro p e s m args below meth c s₁ B hml hv
  obtain ⟨rfl, hv⟩ := hv
  obtain ⟨m9, meth9, c9, hn9, g1, g2, -, -, g6, -⟩ := Cond.codeWith_spec (atoms_spec (ws := (.codeWith yL_difference cL_difference 7 (some .int) [(0, 14, 17, 60)] :: aw)) B.pre _ List.mem_cons_self)
  cases Option.some.inj (hn9.symm.trans B.named)
  cases Option.some.inj (g1.symm.trans B.method)
  cases Option.some.inj (g2.symm.trans (Stand.of_body B).code)
  have htab := tab1 g6
  have hx := B.exec
  have hb := B.bytes
  have hr := B.returns
  have hts : ∀ w ∈ aw, w.before _ s = true := fun w h => atoms_spec (ws := (.codeWith yL_difference cL_difference 7 (some .int) [(0, 14, 17, 60)] :: aw)) B.pre w (List.mem_cons_of_mem _ h)
  have hown : s.vm.findClass RL = some m.cls := findClass_of_methodNamed B.named
  have hlocks := B.notSynchronized
  obtain ⟨hsz, hP, hK, hD0, hG, hE⟩ := hv
  subst hsz
  have hD := hD0.self (sz := s.heap.size)
  generalize hAe : va_A (w9 ad ca dom σ) s.heap.size = A at hD ⊢
  have hSA : ∀ q : Nat, q < s.heap.size → A q → xS ad dom q := fun q h z => by rw [← hAe] at z; exact w9_xS z h
  have hA : ∀ q : Nat, s.heap.size ≤ q → A q := fun q h => by rw [← hAe]; exact Or.inr h
  obtain ⟨H, hH⟩ : ∃ H, H = s.heap := ⟨_, rfl⟩
  have hS : va_S A s.heap H [] := by rw [hH]; exact va_S.rf
  rw [← hH] at hP ⊢
  unfold L_difference at hf
  have hl := lv_entry ([.ref (ad 0 0), .int a1, .int a2, .int a3, .int a4, .ref (ad 24 0)]) (n := 7) (Nat.le_of_ble_eq_true rfl)
  rw [lg_entry_eq]
  generalize (lg_sl ([.ref (ad 0 0), .int a1, .int a2, .int a3, .int a4, .ref (ad 24 0)]) ++ List.replicate (7 - (lg_sl ([.ref (ad 0 0), .int a1, .int a2, .int a3, .int a4, .ref (ad 24 0)])).length) Slot.unset).toArray = ls at hl ⊢
  have hl : lv_has ls 7 [(0, .ref (ad 0 0)), (1, .int a1), (2, .int a2), (3, .int a3), (4, .int a4), (5, .ref (ad 24 0))] := hl
  refine lv_aload (pc := 0) hx hb dL_difference_0 (lv_at hl 5 rfl) ?_
  refine lv_iconst (pc := 2) (v := 0) hx hb dL_difference_2 (by decide) ?_
  refine lv_aload_n (pc := 3) hx hb dL_difference_3 rfl (lv_at hl 0 rfl) ?_
  refine lv_iload_n (pc := 4) hx hb dL_difference_4 rfl (lv_at hl 1 rfl) ?_
  refine lv_iload_n (pc := 5) hx hb dL_difference_5 rfl (lv_at hl 2 rfl) ?_
  refine lv_iload_n (pc := 6) hx hb dL_difference_6 rfl (lv_at hl 3 rfl) ?_
  refine lv_iload (pc := 7) hx hb dL_difference_7 (lv_at hl 4 rfl) ?_
  obtain ⟨q1, hq1, eq1⟩ := at_0 (ad := ad) (ca := ca) (σ := σ) hm0
  obtain ⟨⟨y2o, σ3⟩, hy2, hf⟩ := ob hf
  rcases y2o with _ | y2
  · replace hf := cx_n hf
    have hFc := w9_free hD hS hA
    refine tCatchV (pc := 9) (As := [.int a1, .int a2, .int a3, .int a4]) (rest := [.int 0, .ref (ad 24 0)]) (C := RV) (E := nIX) (name := nIX) ⟨hx, hb, hml, hown, hts⟩ (x_V_difference l dC dI ad ca dom H.size n σ a1 a2 a3 a4 hm0 hN hC σ3 hfl hy2) (cwV 4 hts (gV wd_759 wd_760 wd_761 wd_254 wd_758) rfl rfl rfl (by decide +kernel) ⟨Nat.le_of_ble_eq_true rfl, Nat.le_of_ble_eq_true rfl⟩) ⟨hX_blind, va_recv (q := (RV, TV, 9)) (q0 := q1) (ci := 0) hK.1 hP rfl eq1, hX_pre hP hK hD hG hE hS hSA⟩ rfl hl.1 rfl (lv_room (Nat.le_of_ble_eq_true rfl)) dL_difference_9 ⟨Nat.le_of_ble_eq_true rfl, Nat.le_of_ble_eq_true rfl⟩ htab (by decide) (by decide) (hts _ wd_745) (va_Nw.use rfl hE.1) (fun q4 L9 H1 hq9 hz9 hL9 hB9 hk9 => ?_)
    obtain ⟨hP, hD, hC⟩ := hB9
    replace hD := hD.weaken (fun _ _ _ h => hFc _ h)
    have hS := cS9 hS hz9 hL9 hFc hk9
    generalize H1 = H at hP hS ⊢
    refine W.widen (k := 1) (n := 6) (Nat.le_of_ble_eq_true rfl) (Nat.le_of_ble_eq_true rfl) ?_
    refine lv_astore (pc := 17) hx hb dL_difference_17 hl (by decide) rfl (fun ls hl => ?_)
    have hl : lv_has ls 7 [(6, .ref q4), (0, .ref (ad 0 0)), (1, .int a1), (2, .int a2), (3, .int a3), (4, .int a4), (5, .ref (ad 24 0))] := hl
    refine lv_iconst (pc := 19) (v := 1) hx hb dL_difference_19 (by decide) ?_
    obtain ⟨h8, h9⟩ := Prod.mk.inj (Option.some.inj hf)
    subst h9
    exact W.iret (pc := 20) hx hb hr (fun t ht hW => ⟨⟨_, (), rfl, h8, by rw [ht]; exact hP, hD, hC⟩, hS.F ht⟩) hS.2.2 dL_difference_20
  replace hf := cx_s hf
  have hFc := w9_free hD hS hA
  refine va_calli (pc := 9) (va_runV (As := [.int a1, .int a2, .int a3, .int a4]) (rest := [.int 0, .ref (ad 24 0)]) ⟨hx, hb, hml, hown, hts⟩ (t_V_difference l dC dI ad ca dom H.size n σ a1 a2 a3 a4 hm0 hN hC y2 σ3 hy2) (cwV 4 hts (gV wd_759 wd_760 wd_761 wd_254 wd_758) rfl rfl rfl (by decide +kernel) ⟨Nat.le_of_ble_eq_true rfl, Nat.le_of_ble_eq_true rfl⟩) ⟨hW_blind, va_recv (q := (RV, TV, 9)) (q0 := q1) (ci := 0) hK.1 hP rfl eq1, hW_pre hP hK hD hG⟩ rfl rfl hl.1 rfl (lv_room (Nat.le_of_ble_eq_true rfl)) dL_difference_9 ⟨Nat.le_of_ble_eq_true rfl, Nat.le_of_ble_eq_true rfl⟩) hS (fun q _ h => hFc q h) hFc (fun r9 u t H1 locs ht hvm hr9 hB hz1 hk1 hS => ?_)
  obtain ⟨hP, hD, hC⟩ := hB
  rw [ht] at hP
  replace hD := hD.weaken (fun _ _ _ h => hFc _ h)
  generalize H1 = H at hP hS ⊢
  refine W.eq (g2 := F0 m 12 ls [.int y2, .int 0, .ref (ad 24 0)]) (by rw [hr9]) ?_
  refine lv_i2l (pc := 12) hx hb dL_difference_12 rfl ?_
  obtain ⟨q6, hq6, eq6⟩ := at_24 (ad := ad) (ca := ca) (σ := σ3) hm5
  refine va_last (D := (dC, dI)) (cl := kCl) (pc := 13) hx hb (hK.2 24 0 .long hm5 rfl) hP hD hS q6 0 eq6 rfl (vp_in_lit 0 1 (by decide)) dL_difference_13 (fun H locs hP hD hS => ?_)
  obtain ⟨σ5, hσ5, hf⟩ := lt_9 hf
  obtain ⟨hP, hD⟩ := w9_rL 24 rfl hN hq6 hσ5 (pr_24) hP hD
  have hC : clo dom σ5.2.2 := by rw [hσ5]; exact hC
  refine lv_goto (pc := 14) (tgt := 21) hx hb dL_difference_14 rfl ?_
  refine lv_iconst (pc := 21) (v := 0) hx hb dL_difference_21 (by decide) ?_
  obtain ⟨h8, h9⟩ := Prod.mk.inj (Option.some.inj hf)
  subst h9
  refine W.widen (k := 1) (n := 6) (Nat.le_of_ble_eq_true rfl) (Nat.le_of_ble_eq_true rfl) ?_
  exact W.iret (pc := 22) hx hb hr (fun t ht hW => ⟨⟨_, (), rfl, h8, by rw [ht]; exact hP, hD, hC⟩, hS.F ht⟩) hS.2.2 dL_difference_22
