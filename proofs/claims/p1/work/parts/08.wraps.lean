abbrev cL_drawing : ByteArray := method_4_code
abbrev yL_drawing : MethodName := ⟨"DrawingVaultLaw", "drawing", "(LDrawingVault;I[J)I"⟩
theorem dL_drawing_0 : decode cL_drawing 0 = .ok (.aload_n 2, 1) := by decide +kernel
theorem dL_drawing_1 : decode cL_drawing 1 = .ok (.iconst 0, 1) := by decide +kernel
theorem dL_drawing_2 : decode cL_drawing 2 = .ok (.aload_n 0, 1) := by decide +kernel
theorem dL_drawing_3 : decode cL_drawing 3 = .ok (.iload_n 1, 1) := by decide +kernel
theorem dL_drawing_4 : decode cL_drawing 4 = .ok (.invokevirtual 15, 3) := by decide +kernel
theorem dL_drawing_7 : decode cL_drawing 7 = .ok (.i2l, 1) := by decide +kernel
theorem dL_drawing_8 : decode cL_drawing 8 = .ok (.lastore, 1) := by decide +kernel
theorem dL_drawing_9 : decode cL_drawing 9 = .ok (.goto 6, 3) := by decide +kernel
theorem dL_drawing_15 : decode cL_drawing 15 = .ok (.iconst 0, 1) := by decide +kernel
theorem dL_drawing_16 : decode cL_drawing 16 = .ok (.ireturn, 1) := by decide +kernel
abbrev cL_out : ByteArray := method_5_code
abbrev yL_out : MethodName := ⟨"DrawingVaultLaw", "out", "(LDrawingVault;II[J)I"⟩
theorem dL_out_0 : decode cL_out 0 = .ok (.aload_n 3, 1) := by decide +kernel
theorem dL_out_1 : decode cL_out 1 = .ok (.iconst 0, 1) := by decide +kernel
theorem dL_out_2 : decode cL_out 2 = .ok (.aload_n 0, 1) := by decide +kernel
theorem dL_out_3 : decode cL_out 3 = .ok (.iload_n 1, 1) := by decide +kernel
theorem dL_out_4 : decode cL_out 4 = .ok (.iload_n 2, 1) := by decide +kernel
theorem dL_out_5 : decode cL_out 5 = .ok (.invokevirtual 19, 3) := by decide +kernel
theorem dL_out_8 : decode cL_out 8 = .ok (.ifCond .eq 7, 3) := by decide +kernel
theorem dL_out_15 : decode cL_out 15 = .ok (.lconst 0, 1) := by decide +kernel
theorem dL_out_16 : decode cL_out 16 = .ok (.lastore, 1) := by decide +kernel
theorem dL_out_17 : decode cL_out 17 = .ok (.goto 7, 3) := by decide +kernel
theorem dL_out_24 : decode cL_out 24 = .ok (.iconst 0, 1) := by decide +kernel
theorem dL_out_25 : decode cL_out 25 = .ok (.ireturn, 1) := by decide +kernel
abbrev cL_undo : ByteArray := method_6_code
abbrev yL_undo : MethodName := ⟨"DrawingVaultLaw", "undo", "(LDrawingVault;II[J)I"⟩
theorem dL_undo_0 : decode cL_undo 0 = .ok (.aload_n 3, 1) := by decide +kernel
theorem dL_undo_1 : decode cL_undo 1 = .ok (.iconst 0, 1) := by decide +kernel
theorem dL_undo_2 : decode cL_undo 2 = .ok (.aload_n 0, 1) := by decide +kernel
theorem dL_undo_3 : decode cL_undo 3 = .ok (.iload_n 1, 1) := by decide +kernel
theorem dL_undo_4 : decode cL_undo 4 = .ok (.iload_n 2, 1) := by decide +kernel
theorem dL_undo_5 : decode cL_undo 5 = .ok (.invokevirtual 22, 3) := by decide +kernel
theorem dL_undo_8 : decode cL_undo 8 = .ok (.ifCond .eq 7, 3) := by decide +kernel
theorem dL_undo_15 : decode cL_undo 15 = .ok (.lconst 0, 1) := by decide +kernel
theorem dL_undo_16 : decode cL_undo 16 = .ok (.lastore, 1) := by decide +kernel
theorem dL_undo_17 : decode cL_undo 17 = .ok (.goto 7, 3) := by decide +kernel
theorem dL_undo_24 : decode cL_undo 24 = .ok (.iconst 0, 1) := by decide +kernel
theorem dL_undo_25 : decode cL_undo 25 = .ok (.ireturn, 1) := by decide +kernel
abbrev cL_put : ByteArray := method_7_code
abbrev yL_put : MethodName := ⟨"DrawingVaultLaw", "put", "(LDrawingVault;IIII[J)I"⟩
theorem dL_put_0 : decode cL_put 0 = .ok (.aload 5, 2) := by decide +kernel
theorem dL_put_2 : decode cL_put 2 = .ok (.iconst 0, 1) := by decide +kernel
theorem dL_put_3 : decode cL_put 3 = .ok (.aload_n 0, 1) := by decide +kernel
theorem dL_put_4 : decode cL_put 4 = .ok (.iload_n 1, 1) := by decide +kernel
theorem dL_put_5 : decode cL_put 5 = .ok (.iload_n 2, 1) := by decide +kernel
theorem dL_put_6 : decode cL_put 6 = .ok (.iload_n 3, 1) := by decide +kernel
theorem dL_put_7 : decode cL_put 7 = .ok (.iload 4, 2) := by decide +kernel
theorem dL_put_9 : decode cL_put 9 = .ok (.invokevirtual 25, 3) := by decide +kernel
theorem dL_put_12 : decode cL_put 12 = .ok (.ifCond .eq 7, 3) := by decide +kernel
theorem dL_put_19 : decode cL_put 19 = .ok (.lconst 0, 1) := by decide +kernel
theorem dL_put_20 : decode cL_put 20 = .ok (.lastore, 1) := by decide +kernel
theorem dL_put_21 : decode cL_put 21 = .ok (.goto 7, 3) := by decide +kernel
theorem dL_put_28 : decode cL_put 28 = .ok (.iconst 0, 1) := by decide +kernel
theorem dL_put_29 : decode cL_put 29 = .ok (.ireturn, 1) := by decide +kernel
abbrev cL_resize : ByteArray := method_8_code
abbrev yL_resize : MethodName := ⟨"DrawingVaultLaw", "resize", "(LDrawingVault;III[J)I"⟩
theorem dL_resize_0 : decode cL_resize 0 = .ok (.aload 4, 2) := by decide +kernel
theorem dL_resize_2 : decode cL_resize 2 = .ok (.iconst 0, 1) := by decide +kernel
theorem dL_resize_3 : decode cL_resize 3 = .ok (.aload_n 0, 1) := by decide +kernel
theorem dL_resize_4 : decode cL_resize 4 = .ok (.iload_n 1, 1) := by decide +kernel
theorem dL_resize_5 : decode cL_resize 5 = .ok (.iload_n 2, 1) := by decide +kernel
theorem dL_resize_6 : decode cL_resize 6 = .ok (.iload_n 3, 1) := by decide +kernel
theorem dL_resize_7 : decode cL_resize 7 = .ok (.invokevirtual 29, 3) := by decide +kernel
theorem dL_resize_10 : decode cL_resize 10 = .ok (.ifCond .eq 7, 3) := by decide +kernel
theorem dL_resize_17 : decode cL_resize 17 = .ok (.lconst 0, 1) := by decide +kernel
theorem dL_resize_18 : decode cL_resize 18 = .ok (.lastore, 1) := by decide +kernel
theorem dL_resize_19 : decode cL_resize 19 = .ok (.goto 7, 3) := by decide +kernel
theorem dL_resize_26 : decode cL_resize 26 = .ok (.iconst 0, 1) := by decide +kernel
theorem dL_resize_27 : decode cL_resize 27 = .ok (.ireturn, 1) := by decide +kernel
abbrev cL_ref : ByteArray := method_9_code
abbrev yL_ref : MethodName := ⟨"DrawingVaultLaw", "ref", "(LDrawingVault;IIIII[J)I"⟩
theorem dL_ref_0 : decode cL_ref 0 = .ok (.aload 6, 2) := by decide +kernel
theorem dL_ref_2 : decode cL_ref 2 = .ok (.iconst 0, 1) := by decide +kernel
theorem dL_ref_3 : decode cL_ref 3 = .ok (.aload_n 0, 1) := by decide +kernel
theorem dL_ref_4 : decode cL_ref 4 = .ok (.iload_n 1, 1) := by decide +kernel
theorem dL_ref_5 : decode cL_ref 5 = .ok (.iload_n 2, 1) := by decide +kernel
theorem dL_ref_6 : decode cL_ref 6 = .ok (.iload_n 3, 1) := by decide +kernel
theorem dL_ref_7 : decode cL_ref 7 = .ok (.iload 4, 2) := by decide +kernel
theorem dL_ref_9 : decode cL_ref 9 = .ok (.iload 5, 2) := by decide +kernel
theorem dL_ref_11 : decode cL_ref 11 = .ok (.invokevirtual 33, 3) := by decide +kernel
theorem dL_ref_14 : decode cL_ref 14 = .ok (.ifCond .eq 7, 3) := by decide +kernel
theorem dL_ref_21 : decode cL_ref 21 = .ok (.lconst 0, 1) := by decide +kernel
theorem dL_ref_22 : decode cL_ref 22 = .ok (.lastore, 1) := by decide +kernel
theorem dL_ref_23 : decode cL_ref 23 = .ok (.goto 7, 3) := by decide +kernel
theorem dL_ref_30 : decode cL_ref 30 = .ok (.iconst 0, 1) := by decide +kernel
theorem dL_ref_31 : decode cL_ref 31 = .ok (.ireturn, 1) := by decide +kernel
abbrev cL_drop : ByteArray := method_10_code
abbrev yL_drop : MethodName := ⟨"DrawingVaultLaw", "drop", "(LDrawingVault;III[J)I"⟩
theorem dL_drop_0 : decode cL_drop 0 = .ok (.aload 4, 2) := by decide +kernel
theorem dL_drop_2 : decode cL_drop 2 = .ok (.iconst 0, 1) := by decide +kernel
theorem dL_drop_3 : decode cL_drop 3 = .ok (.aload_n 0, 1) := by decide +kernel
theorem dL_drop_4 : decode cL_drop 4 = .ok (.iload_n 1, 1) := by decide +kernel
theorem dL_drop_5 : decode cL_drop 5 = .ok (.iload_n 2, 1) := by decide +kernel
theorem dL_drop_6 : decode cL_drop 6 = .ok (.iload_n 3, 1) := by decide +kernel
theorem dL_drop_7 : decode cL_drop 7 = .ok (.invokevirtual 37, 3) := by decide +kernel
theorem dL_drop_10 : decode cL_drop 10 = .ok (.ifCond .eq 7, 3) := by decide +kernel
theorem dL_drop_17 : decode cL_drop 17 = .ok (.lconst 0, 1) := by decide +kernel
theorem dL_drop_18 : decode cL_drop 18 = .ok (.lastore, 1) := by decide +kernel
theorem dL_drop_19 : decode cL_drop 19 = .ok (.goto 7, 3) := by decide +kernel
theorem dL_drop_26 : decode cL_drop 26 = .ok (.iconst 0, 1) := by decide +kernel
theorem dL_drop_27 : decode cL_drop 27 = .ok (.ireturn, 1) := by decide +kernel
abbrev cL_checkIn : ByteArray := method_11_code
abbrev yL_checkIn : MethodName := ⟨"DrawingVaultLaw", "checkIn", "(LDrawingVault;II[J)I"⟩
theorem dL_checkIn_0 : decode cL_checkIn 0 = .ok (.aload_n 3, 1) := by decide +kernel
theorem dL_checkIn_1 : decode cL_checkIn 1 = .ok (.iconst 0, 1) := by decide +kernel
theorem dL_checkIn_2 : decode cL_checkIn 2 = .ok (.aload_n 0, 1) := by decide +kernel
theorem dL_checkIn_3 : decode cL_checkIn 3 = .ok (.iload_n 1, 1) := by decide +kernel
theorem dL_checkIn_4 : decode cL_checkIn 4 = .ok (.iload_n 2, 1) := by decide +kernel
theorem dL_checkIn_5 : decode cL_checkIn 5 = .ok (.invokevirtual 40, 3) := by decide +kernel
theorem dL_checkIn_8 : decode cL_checkIn 8 = .ok (.i2l, 1) := by decide +kernel
theorem dL_checkIn_9 : decode cL_checkIn 9 = .ok (.lastore, 1) := by decide +kernel
theorem dL_checkIn_10 : decode cL_checkIn 10 = .ok (.goto 7, 3) := by decide +kernel
theorem dL_checkIn_17 : decode cL_checkIn 17 = .ok (.iconst 0, 1) := by decide +kernel
theorem dL_checkIn_18 : decode cL_checkIn 18 = .ok (.ireturn, 1) := by decide +kernel
abbrev cL_check : ByteArray := method_12_code
abbrev yL_check : MethodName := ⟨"DrawingVaultLaw", "check", "(LDrawingVault;III[J)I"⟩
theorem dL_check_0 : decode cL_check 0 = .ok (.aload 4, 2) := by decide +kernel
theorem dL_check_2 : decode cL_check 2 = .ok (.iconst 0, 1) := by decide +kernel
theorem dL_check_3 : decode cL_check 3 = .ok (.aload_n 0, 1) := by decide +kernel
theorem dL_check_4 : decode cL_check 4 = .ok (.iload_n 1, 1) := by decide +kernel
theorem dL_check_5 : decode cL_check 5 = .ok (.iload_n 2, 1) := by decide +kernel
theorem dL_check_6 : decode cL_check 6 = .ok (.iload_n 3, 1) := by decide +kernel
theorem dL_check_7 : decode cL_check 7 = .ok (.invokevirtual 44, 3) := by decide +kernel
theorem dL_check_10 : decode cL_check 10 = .ok (.ifCond .eq 7, 3) := by decide +kernel
theorem dL_check_17 : decode cL_check 17 = .ok (.lconst 0, 1) := by decide +kernel
theorem dL_check_18 : decode cL_check 18 = .ok (.lastore, 1) := by decide +kernel
theorem dL_check_19 : decode cL_check 19 = .ok (.goto 7, 3) := by decide +kernel
theorem dL_check_26 : decode cL_check 26 = .ok (.iconst 0, 1) := by decide +kernel
theorem dL_check_27 : decode cL_check 27 = .ok (.ireturn, 1) := by decide +kernel
abbrev cL_release : ByteArray := method_13_code
abbrev yL_release : MethodName := ⟨"DrawingVaultLaw", "release", "(LDrawingVault;III[J)I"⟩
theorem dL_release_0 : decode cL_release 0 = .ok (.aload 4, 2) := by decide +kernel
theorem dL_release_2 : decode cL_release 2 = .ok (.iconst 0, 1) := by decide +kernel
theorem dL_release_3 : decode cL_release 3 = .ok (.aload_n 0, 1) := by decide +kernel
theorem dL_release_4 : decode cL_release 4 = .ok (.iload_n 1, 1) := by decide +kernel
theorem dL_release_5 : decode cL_release 5 = .ok (.iload_n 2, 1) := by decide +kernel
theorem dL_release_6 : decode cL_release 6 = .ok (.iload_n 3, 1) := by decide +kernel
theorem dL_release_7 : decode cL_release 7 = .ok (.invokevirtual 47, 3) := by decide +kernel
theorem dL_release_10 : decode cL_release 10 = .ok (.ifCond .eq 7, 3) := by decide +kernel
theorem dL_release_17 : decode cL_release 17 = .ok (.lconst 0, 1) := by decide +kernel
theorem dL_release_18 : decode cL_release 18 = .ok (.lastore, 1) := by decide +kernel
theorem dL_release_19 : decode cL_release 19 = .ok (.goto 7, 3) := by decide +kernel
theorem dL_release_26 : decode cL_release 26 = .ok (.iconst 0, 1) := by decide +kernel
theorem dL_release_27 : decode cL_release 27 = .ok (.ireturn, 1) := by decide +kernel
abbrev cL_withdraw : ByteArray := method_14_code
abbrev yL_withdraw : MethodName := ⟨"DrawingVaultLaw", "withdraw", "(LDrawingVault;III[J)I"⟩
theorem dL_withdraw_0 : decode cL_withdraw 0 = .ok (.aload 4, 2) := by decide +kernel
theorem dL_withdraw_2 : decode cL_withdraw 2 = .ok (.iconst 0, 1) := by decide +kernel
theorem dL_withdraw_3 : decode cL_withdraw 3 = .ok (.aload_n 0, 1) := by decide +kernel
theorem dL_withdraw_4 : decode cL_withdraw 4 = .ok (.iload_n 1, 1) := by decide +kernel
theorem dL_withdraw_5 : decode cL_withdraw 5 = .ok (.iload_n 2, 1) := by decide +kernel
theorem dL_withdraw_6 : decode cL_withdraw 6 = .ok (.iload_n 3, 1) := by decide +kernel
theorem dL_withdraw_7 : decode cL_withdraw 7 = .ok (.invokevirtual 50, 3) := by decide +kernel
theorem dL_withdraw_10 : decode cL_withdraw 10 = .ok (.ifCond .eq 7, 3) := by decide +kernel
theorem dL_withdraw_17 : decode cL_withdraw 17 = .ok (.lconst 0, 1) := by decide +kernel
theorem dL_withdraw_18 : decode cL_withdraw 18 = .ok (.lastore, 1) := by decide +kernel
theorem dL_withdraw_19 : decode cL_withdraw 19 = .ok (.goto 7, 3) := by decide +kernel
theorem dL_withdraw_26 : decode cL_withdraw 26 = .ok (.iconst 0, 1) := by decide +kernel
theorem dL_withdraw_27 : decode cL_withdraw 27 = .ok (.ireturn, 1) := by decide +kernel
abbrev cL_person : ByteArray := method_3_code
abbrev yL_person : MethodName := ⟨"DrawingVaultLaw", "person", "(LDrawingVault;II[J)I"⟩
theorem dL_person_0 : decode cL_person 0 = .ok (.aload_n 3, 1) := by decide +kernel
theorem dL_person_1 : decode cL_person 1 = .ok (.iconst 0, 1) := by decide +kernel
theorem dL_person_2 : decode cL_person 2 = .ok (.aload_n 0, 1) := by decide +kernel
theorem dL_person_3 : decode cL_person 3 = .ok (.iload_n 1, 1) := by decide +kernel
theorem dL_person_4 : decode cL_person 4 = .ok (.iload_n 2, 1) := by decide +kernel
theorem dL_person_5 : decode cL_person 5 = .ok (.invokevirtual 7, 3) := by decide +kernel
theorem dL_person_8 : decode cL_person 8 = .ok (.ifCond .eq 7, 3) := by decide +kernel
theorem dL_person_11 : decode cL_person 11 = .ok (.lconst 1, 1) := by decide +kernel
theorem dL_person_12 : decode cL_person 12 = .ok (.goto 4, 3) := by decide +kernel
theorem dL_person_15 : decode cL_person 15 = .ok (.lconst 0, 1) := by decide +kernel
theorem dL_person_16 : decode cL_person 16 = .ok (.lastore, 1) := by decide +kernel
theorem dL_person_17 : decode cL_person 17 = .ok (.goto 7, 3) := by decide +kernel
theorem dL_person_24 : decode cL_person 24 = .ok (.iconst 0, 1) := by decide +kernel
theorem dL_person_25 : decode cL_person 25 = .ok (.ireturn, 1) := by decide +kernel
abbrev cL_baseline : ByteArray := method_15_code
abbrev yL_baseline : MethodName := ⟨"DrawingVaultLaw", "baseline", "(LDrawingVault;II[J)I"⟩
theorem dL_baseline_0 : decode cL_baseline 0 = .ok (.aload_n 3, 1) := by decide +kernel
theorem dL_baseline_1 : decode cL_baseline 1 = .ok (.iconst 0, 1) := by decide +kernel
theorem dL_baseline_2 : decode cL_baseline 2 = .ok (.aload_n 0, 1) := by decide +kernel
theorem dL_baseline_3 : decode cL_baseline 3 = .ok (.iload_n 1, 1) := by decide +kernel
theorem dL_baseline_4 : decode cL_baseline 4 = .ok (.iload_n 2, 1) := by decide +kernel
theorem dL_baseline_5 : decode cL_baseline 5 = .ok (.invokevirtual 53, 3) := by decide +kernel
theorem dL_baseline_8 : decode cL_baseline 8 = .ok (.i2l, 1) := by decide +kernel
theorem dL_baseline_9 : decode cL_baseline 9 = .ok (.lastore, 1) := by decide +kernel
theorem dL_baseline_10 : decode cL_baseline 10 = .ok (.goto 7, 3) := by decide +kernel
theorem dL_baseline_17 : decode cL_baseline 17 = .ok (.iconst 0, 1) := by decide +kernel
theorem dL_baseline_18 : decode cL_baseline 18 = .ok (.ireturn, 1) := by decide +kernel
theorem wd_277 : (.code ⟨"DrawingVault", "drawing", "(I)I"⟩ prog_1_method_3_code 4 (Option.some .int) : Cond) ∈ aw := aw_in (tb_2 (List.mem_of_getElem? (i := 115) rfl)) rfl
theorem wd_278 : (.methodLink "DrawingVaultLaw" 15 ⟨"DrawingVault", "drawing", "(I)I"⟩ : Cond) ∈ aw := aw_in (tb_2 (List.mem_of_getElem? (i := 112) rfl)) rfl
theorem wd_279 : (.instanceMethod ⟨"DrawingVault", "drawing", "(I)I"⟩ : Cond) ∈ aw := aw_in (tb_2 (List.mem_of_getElem? (i := 113) rfl)) rfl
theorem wd_280 : (.selects "DrawingVault" ⟨"DrawingVault", "drawing", "(I)I"⟩ ⟨"DrawingVault", "drawing", "(I)I"⟩ : Cond) ∈ aw := aw_in (tb_2 (List.mem_of_getElem? (i := 114) rfl)) rfl
theorem wd_281 : (.code ⟨"DrawingVault", "out", "(II)Z"⟩ prog_1_method_4_code 4 (Option.some .boolean) : Cond) ∈ aw := aw_in (tb_2 (List.mem_of_getElem? (i := 212) rfl)) rfl
theorem wd_282 : (.methodLink "DrawingVaultLaw" 19 ⟨"DrawingVault", "out", "(II)Z"⟩ : Cond) ∈ aw := aw_in (tb_2 (List.mem_of_getElem? (i := 209) rfl)) rfl
theorem wd_283 : (.instanceMethod ⟨"DrawingVault", "out", "(II)Z"⟩ : Cond) ∈ aw := aw_in (tb_2 (List.mem_of_getElem? (i := 210) rfl)) rfl
theorem wd_284 : (.selects "DrawingVault" ⟨"DrawingVault", "out", "(II)Z"⟩ ⟨"DrawingVault", "out", "(II)Z"⟩ : Cond) ∈ aw := aw_in (tb_2 (List.mem_of_getElem? (i := 211) rfl)) rfl
theorem wd_285 : (.code ⟨"DrawingVault", "undo", "(II)Z"⟩ prog_1_method_5_code 4 (Option.some .boolean) : Cond) ∈ aw := aw_in (tb_2 (List.mem_of_getElem? (i := 227) rfl)) rfl
theorem wd_286 : (.methodLink "DrawingVaultLaw" 22 ⟨"DrawingVault", "undo", "(II)Z"⟩ : Cond) ∈ aw := aw_in (tb_2 (List.mem_of_getElem? (i := 224) rfl)) rfl
theorem wd_287 : (.instanceMethod ⟨"DrawingVault", "undo", "(II)Z"⟩ : Cond) ∈ aw := aw_in (tb_2 (List.mem_of_getElem? (i := 225) rfl)) rfl
theorem wd_288 : (.selects "DrawingVault" ⟨"DrawingVault", "undo", "(II)Z"⟩ ⟨"DrawingVault", "undo", "(II)Z"⟩ : Cond) ∈ aw := aw_in (tb_2 (List.mem_of_getElem? (i := 226) rfl)) rfl
theorem wd_289 : (.code ⟨"DrawingVault", "put", "(IIII)Z"⟩ prog_1_method_6_code 7 (Option.some .boolean) : Cond) ∈ aw := aw_in (tb_3 (List.mem_of_getElem? (i := 9) rfl)) rfl
theorem wd_290 : (.methodLink "DrawingVaultLaw" 25 ⟨"DrawingVault", "put", "(IIII)Z"⟩ : Cond) ∈ aw := aw_in (tb_3 (List.mem_of_getElem? (i := 6) rfl)) rfl
theorem wd_291 : (.instanceMethod ⟨"DrawingVault", "put", "(IIII)Z"⟩ : Cond) ∈ aw := aw_in (tb_3 (List.mem_of_getElem? (i := 7) rfl)) rfl
theorem wd_292 : (.selects "DrawingVault" ⟨"DrawingVault", "put", "(IIII)Z"⟩ ⟨"DrawingVault", "put", "(IIII)Z"⟩ : Cond) ∈ aw := aw_in (tb_3 (List.mem_of_getElem? (i := 8) rfl)) rfl
theorem wd_293 : (.code ⟨"DrawingVault", "resize", "(III)Z"⟩ prog_1_method_7_code 6 (Option.some .boolean) : Cond) ∈ aw := aw_in (tb_3 (List.mem_of_getElem? (i := 29) rfl)) rfl
theorem wd_294 : (.methodLink "DrawingVaultLaw" 29 ⟨"DrawingVault", "resize", "(III)Z"⟩ : Cond) ∈ aw := aw_in (tb_3 (List.mem_of_getElem? (i := 26) rfl)) rfl
theorem wd_295 : (.instanceMethod ⟨"DrawingVault", "resize", "(III)Z"⟩ : Cond) ∈ aw := aw_in (tb_3 (List.mem_of_getElem? (i := 27) rfl)) rfl
theorem wd_296 : (.selects "DrawingVault" ⟨"DrawingVault", "resize", "(III)Z"⟩ ⟨"DrawingVault", "resize", "(III)Z"⟩ : Cond) ∈ aw := aw_in (tb_3 (List.mem_of_getElem? (i := 28) rfl)) rfl
theorem wd_297 : (.code ⟨"DrawingVault", "ref", "(IIIII)Z"⟩ prog_1_method_8_code 8 (Option.some .boolean) : Cond) ∈ aw := aw_in (tb_3 (List.mem_of_getElem? (i := 41) rfl)) rfl
theorem wd_298 : (.methodLink "DrawingVaultLaw" 33 ⟨"DrawingVault", "ref", "(IIIII)Z"⟩ : Cond) ∈ aw := aw_in (tb_3 (List.mem_of_getElem? (i := 38) rfl)) rfl
theorem wd_299 : (.instanceMethod ⟨"DrawingVault", "ref", "(IIIII)Z"⟩ : Cond) ∈ aw := aw_in (tb_3 (List.mem_of_getElem? (i := 39) rfl)) rfl
theorem wd_300 : (.selects "DrawingVault" ⟨"DrawingVault", "ref", "(IIIII)Z"⟩ ⟨"DrawingVault", "ref", "(IIIII)Z"⟩ : Cond) ∈ aw := aw_in (tb_3 (List.mem_of_getElem? (i := 40) rfl)) rfl
theorem wd_301 : (.code ⟨"DrawingVault", "drop", "(III)Z"⟩ prog_1_method_9_code 6 (Option.some .boolean) : Cond) ∈ aw := aw_in (tb_3 (List.mem_of_getElem? (i := 56) rfl)) rfl
theorem wd_302 : (.methodLink "DrawingVaultLaw" 37 ⟨"DrawingVault", "drop", "(III)Z"⟩ : Cond) ∈ aw := aw_in (tb_3 (List.mem_of_getElem? (i := 53) rfl)) rfl
theorem wd_303 : (.instanceMethod ⟨"DrawingVault", "drop", "(III)Z"⟩ : Cond) ∈ aw := aw_in (tb_3 (List.mem_of_getElem? (i := 54) rfl)) rfl
theorem wd_304 : (.selects "DrawingVault" ⟨"DrawingVault", "drop", "(III)Z"⟩ ⟨"DrawingVault", "drop", "(III)Z"⟩ : Cond) ∈ aw := aw_in (tb_3 (List.mem_of_getElem? (i := 55) rfl)) rfl
theorem wd_305 : (.code ⟨"DrawingVault", "checkIn", "(II)I"⟩ prog_1_method_10_code 6 (Option.some .int) : Cond) ∈ aw := aw_in (tb_3 (List.mem_of_getElem? (i := 71) rfl)) rfl
theorem wd_306 : (.methodLink "DrawingVaultLaw" 40 ⟨"DrawingVault", "checkIn", "(II)I"⟩ : Cond) ∈ aw := aw_in (tb_3 (List.mem_of_getElem? (i := 68) rfl)) rfl
theorem wd_307 : (.instanceMethod ⟨"DrawingVault", "checkIn", "(II)I"⟩ : Cond) ∈ aw := aw_in (tb_3 (List.mem_of_getElem? (i := 69) rfl)) rfl
theorem wd_308 : (.selects "DrawingVault" ⟨"DrawingVault", "checkIn", "(II)I"⟩ ⟨"DrawingVault", "checkIn", "(II)I"⟩ : Cond) ∈ aw := aw_in (tb_3 (List.mem_of_getElem? (i := 70) rfl)) rfl
theorem wd_309 : (.code ⟨"DrawingVault", "check", "(III)Z"⟩ prog_1_method_11_code 4 (Option.some .boolean) : Cond) ∈ aw := aw_in (tb_3 (List.mem_of_getElem? (i := 99) rfl)) rfl
theorem wd_310 : (.methodLink "DrawingVaultLaw" 44 ⟨"DrawingVault", "check", "(III)Z"⟩ : Cond) ∈ aw := aw_in (tb_3 (List.mem_of_getElem? (i := 96) rfl)) rfl
theorem wd_311 : (.instanceMethod ⟨"DrawingVault", "check", "(III)Z"⟩ : Cond) ∈ aw := aw_in (tb_3 (List.mem_of_getElem? (i := 97) rfl)) rfl
theorem wd_312 : (.selects "DrawingVault" ⟨"DrawingVault", "check", "(III)Z"⟩ ⟨"DrawingVault", "check", "(III)Z"⟩ : Cond) ∈ aw := aw_in (tb_3 (List.mem_of_getElem? (i := 98) rfl)) rfl
theorem wd_313 : (.code ⟨"DrawingVault", "release", "(III)Z"⟩ prog_1_method_12_code 4 (Option.some .boolean) : Cond) ∈ aw := aw_in (tb_3 (List.mem_of_getElem? (i := 114) rfl)) rfl
theorem wd_314 : (.methodLink "DrawingVaultLaw" 47 ⟨"DrawingVault", "release", "(III)Z"⟩ : Cond) ∈ aw := aw_in (tb_3 (List.mem_of_getElem? (i := 111) rfl)) rfl
theorem wd_315 : (.instanceMethod ⟨"DrawingVault", "release", "(III)Z"⟩ : Cond) ∈ aw := aw_in (tb_3 (List.mem_of_getElem? (i := 112) rfl)) rfl
theorem wd_316 : (.selects "DrawingVault" ⟨"DrawingVault", "release", "(III)Z"⟩ ⟨"DrawingVault", "release", "(III)Z"⟩ : Cond) ∈ aw := aw_in (tb_3 (List.mem_of_getElem? (i := 113) rfl)) rfl
theorem wd_317 : (.code ⟨"DrawingVault", "withdraw", "(III)Z"⟩ prog_1_method_13_code 4 (Option.some .boolean) : Cond) ∈ aw := aw_in (tb_3 (List.mem_of_getElem? (i := 141) rfl)) rfl
theorem wd_318 : (.methodLink "DrawingVaultLaw" 50 ⟨"DrawingVault", "withdraw", "(III)Z"⟩ : Cond) ∈ aw := aw_in (tb_3 (List.mem_of_getElem? (i := 138) rfl)) rfl
theorem wd_319 : (.instanceMethod ⟨"DrawingVault", "withdraw", "(III)Z"⟩ : Cond) ∈ aw := aw_in (tb_3 (List.mem_of_getElem? (i := 139) rfl)) rfl
theorem wd_320 : (.selects "DrawingVault" ⟨"DrawingVault", "withdraw", "(III)Z"⟩ ⟨"DrawingVault", "withdraw", "(III)Z"⟩ : Cond) ∈ aw := aw_in (tb_3 (List.mem_of_getElem? (i := 140) rfl)) rfl
theorem wd_321 : (.code ⟨"DrawingVault", "person", "(II)Z"⟩ prog_1_method_2_code 4 (Option.some .boolean) : Cond) ∈ aw := aw_in (tb_2 (List.mem_of_getElem? (i := 3) rfl)) rfl
theorem wd_322 : (.methodLink "DrawingVaultLaw" 7 ⟨"DrawingVault", "person", "(II)Z"⟩ : Cond) ∈ aw := aw_in (tb_2 (List.mem_of_getElem? (i := 0) rfl)) rfl
theorem wd_323 : (.instanceMethod ⟨"DrawingVault", "person", "(II)Z"⟩ : Cond) ∈ aw := aw_in (tb_2 (List.mem_of_getElem? (i := 1) rfl)) rfl
theorem wd_324 : (.selects "DrawingVault" ⟨"DrawingVault", "person", "(II)Z"⟩ ⟨"DrawingVault", "person", "(II)Z"⟩ : Cond) ∈ aw := aw_in (tb_2 (List.mem_of_getElem? (i := 2) rfl)) rfl
theorem wd_325 : (.code ⟨"DrawingVault", "baseline", "(II)I"⟩ prog_1_method_14_code 6 (Option.some .int) : Cond) ∈ aw := aw_in (tb_3 (List.mem_of_getElem? (i := 164) rfl)) rfl
theorem wd_326 : (.methodLink "DrawingVaultLaw" 53 ⟨"DrawingVault", "baseline", "(II)I"⟩ : Cond) ∈ aw := aw_in (tb_3 (List.mem_of_getElem? (i := 161) rfl)) rfl
theorem wd_327 : (.instanceMethod ⟨"DrawingVault", "baseline", "(II)I"⟩ : Cond) ∈ aw := aw_in (tb_3 (List.mem_of_getElem? (i := 162) rfl)) rfl
theorem wd_328 : (.selects "DrawingVault" ⟨"DrawingVault", "baseline", "(II)I"⟩ ⟨"DrawingVault", "baseline", "(II)I"⟩ : Cond) ∈ aw := aw_in (tb_3 (List.mem_of_getElem? (i := 163) rfl)) rfl

section TC8
variable {p : Program} {l : Launch} {e : Env} {R : Room} {s : State} {m : MethodId} {args : Array Value} {below : List Frame} {meth : Method} {c : Code} {H : Heap} {locs : List Loc} {cells slots : Nat} {Q : State → Prop} {cc : ByteArray} {pc : Nat} {ls : Array Slot} {rest st0 : List Value} {T : State}
/-- the step of 'invokestatic' itself -/
theorem in9S {own : String} {index : Nat} {y : MethodName} {mk : MethodId} {me : Method} {g : JFrame} {As : List Value} (hx : p.tables.exec = Jvm.exec) (ho : s.vm.findClass own = some m.cls) (hl : (Cond.methodLink own index y).before args s = true) (hstt : (Cond.static y).before args s = true) (hini : (Cond.initialized y.cls).before args s = true) (hy : y.cls ≠ "java/lang/invoke/MethodHandle" ∧ y.cls ≠ "java/lang/invoke/VarHandle")
    (hmk : s.methodNamed? y = some mk) (hme : s.vm.method? mk = some me) (hn : As.length = me.sig.parameters.length) (hg : g.method = m) (hstack : g.stack = As.reverse ++ rest) (hdg : decode c.code g.pc = .ok (.invokestatic index, 3)) (X : Stand p l e R s m args below meth c T locs cells slots) :
    ∃ vm₁, Stand p l e R s m args below meth c (T.setVm vm₁) locs cells slots ∧ ∀ target, (∀ acts : List Action, Steps p.tables e below (doInvoke e ((T.setVm vm₁).setTop { g with stack := rest }) acts mk As.toArray).1 target) → Steps p.tables e below (T.setTop g) target := by
  obtain ⟨k, k1, -⟩ := className_of_methodNamed hmk
  exact X.invokestatic hx ho hl hmk hme (Cond.static_spec hmk hme hstt) k1 (Cond.initialized_spec (findClass_of_methodNamed hmk) k1 hini) hy hg hn hstack hdg
end TC8
/-- a static call of a method that has handlers -/
theorem hxR {p : Program} {l : Launch} {e : Env} {R : Room} {s : State} {m : MethodId} {args : Array Value} {below : List Frame} {meth : Method} {c : Code} {H : Heap} {locs : List Loc} {cells slots : Nat} {y : MethodName} {bytes cc : ByteArray} {maxL nL mc ms index : Nat} {ret : Option FieldType} {hh : List (Nat × Nat × Nat × Nat)} {rm : Room} {Pc : Array Value → State → Prop} {Qc : Array Value → State → Outcome → State → Prop} {free : Addr → Prop} {own : String} {As rest : List Value} {g : JFrame}
    (S : CallFix p m c cc nL s args aw own) (hM : Met l y (Cond.codeWith y bytes maxL ret hh :: aw) rm Pc Qc mc ms free) (n : Nat) (h1 : Cond.methodLink own index y ∈ aw) (h2 : Cond.static y ∈ aw) (h3 : Cond.initialized y.cls ∈ aw) (h4 : Cond.codeWith y bytes maxL ret hh ∈ aw) (hrc : rm.cells = mc) (hrs : rm.slots = ms) (hR : rm.frames + 1 ≤ R.frames ∧ 8 + (maxL + 11) + rm.locals ≤ R.locals)
    (hd : y.cls ≠ "java/lang/invoke/MethodHandle" ∧ y.cls ≠ "java/lang/invoke/VarHandle" ∧ (parseMethodDescriptor y.desc).map (fun d => d.parameters.length) = some n) (hp : PreS s H Pc As)
    (hg : g.method = m) (hn : As.length = n) (hsize : g.locals.size = nL) (hstack : g.stack = As.reverse ++ rest) (hW : 2 * g.monitorRoom + (rest.map fun v => v.category).sum ≤ 8) (hdg : decode cc g.pc = .ok (.invokestatic index, 3)) (hf : cells + mc ≤ R.cells ∧ slots + ms ≤ R.slots) :
    va_Run p l e R s m args below meth c H locs cells slots mc ms g rest (Qc As.toArray) free := by
  obtain ⟨hx, hb, hml, ho, hts⟩ := S
  obtain ⟨mk, me, co, i1, i2, -, -, -, -, -, -, sig9⟩ := Cond.codeWith_spec (hts _ h4)
  have len : As.length = me.sig.parameters.length := by simpa [sig9, hn] using hd.2.2.symm
  have back : Back l R p e below s args y 3 8 (PreOf R mc ms Pc) (PostOf Qc mc ms free) := va_backW (hh := hh) (bytes := bytes) (maxL := maxL) (ret := ret) hM hp.1 hrc hrs hR.1 hR.2 (pay_in hts (gI h4)) List.mem_cons_self (fun a' U hW => word_at hW (aw_good h3) (hts _ h3))
  intro T hT X
  obtain ⟨vm₁, X₁, go⟩ := in9S hx ho (hts _ h1) (hts _ h2) (hts _ h3) ⟨hd.1, hd.2.1⟩ i1 i2 len hg hstack (by rw [hb]; exact hdg) X
  obtain ⟨v, ⟨U, lU, cU, sU⟩, XU, ⟨g', mk', t, L, u1, u2, post, ⟨⟩, inL, ⟨⟩, ⟨⟩⟩, st⟩ := back m meth c ⟨T.setVm vm₁, locs, cells, slots⟩ { g with stack := rest } (.invokestatic index) mk As.toArray X₁ hg (hsize.trans hml.symm) (by rw [hb]; exact hdg) hW (X₁.named i1) ⟨hf.1, hf.2, hp.2 (T.setVm vm₁) hT X₁.warmed⟩
  refine ⟨v, (T.setVm vm₁).calling g' mk' As.toArray, t, U, L, hT, XU, inL, u1, u2, post, fun target h => go target fun acts => ?_⟩
  rw [doInvoke_state]
  exact st.trans h

set_option maxHeartbeats 4000000 in
set_option maxRecDepth 100000 in
theorem l_drawing (l : Launch) (dC : Nat → ClassId) (dI : Nat → Nat → Nat) (sz : Nat) (x : Nat) (rt : Nat) (dr : Nat) (bs : Nat) (df : Nat) (ch : Nat) (pg : Nat) (rs : Int32) (cR : ClassId) (ou : Nat) (cU : ClassId) (fo : Nat → Int64) (pp : Int32) : Met l yL_drawing (.codeWith yL_drawing cL_drawing 4 (some .int) [(0, 9, 12, 13)] :: aw) ({ frames := 4, cells := 0, slots := 0, locals := 87 }) (pW (dC, dI) sz [(x, .inr (0, [.ref rt, .ref dr, .int 0, .int 0, .ref bs, .ref df, .ref ch, .ref pg, .int rs])), (rt, .inl (cR, 16, .inl (fun _ => 0))), (pg, .inr (3, [.int 400, .int 0, .int 0, .int 0, .int 0, .int 0])), (ou, .inl (cU, 1, .inr (.inl fo)))] [(cR, .int), (cU, .long)] [.ref x, .int pp, .ref ou]) (va_Qi (fun r (_ : Unit) => r = 0) (fun _ t => wW (dC, dI) (va_A [(x, .inr (0, [.ref rt, .ref dr, .int 0, .int 0, .ref bs, .ref df, .ref ch, .ref pg, .int rs])), (rt, .inl (cR, 16, .inl (fun _ => 0))), (pg, .inr (3, [.int 400, .int 0, .int 0, .int 0, .int 0, .int 0])), (ou, .inl (cU, 1, .inr (.inl fo)))] sz) [(ou, .inl (cU, 1, .inr (.inl (vp_updL fo (0 : Int32).toNatClampNeg (-1)))))] [] t) (va_A [(x, .inr (0, [.ref rt, .ref dr, .int 0, .int 0, .ref bs, .ref df, .ref ch, .ref pg, .int rs])), (rt, .inl (cR, 16, .inl (fun _ => 0))), (pg, .inr (3, [.int 400, .int 0, .int 0, .int 0, .int 0, .int 0])), (ou, .inl (cU, 1, .inr (.inl fo)))] sz)) 0 0 (va_A [(x, .inr (0, [.ref rt, .ref dr, .int 0, .int 0, .ref bs, .ref df, .ref ch, .ref pg, .int rs])), (rt, .inl (cR, 16, .inl (fun _ => 0))), (pg, .inr (3, [.int 400, .int 0, .int 0, .int 0, .int 0, .int 0])), (ou, .inl (cU, 1, .inr (.inl fo)))] sz) := by
  refine va_MetW (hh := [(0, 9, 12, 13)]) (cc := cL_drawing) (maxL := 4) (ret := (some .int)) (by decide) rfl ?_
  intro p e s m args below meth c s₁ B hml hv
  obtain ⟨rfl, hv⟩ := hv
  have hx := B.exec
  have hb := B.bytes
  have hr := B.returns
  have hts : ∀ w ∈ aw, w.before _ s = true := fun w h => atoms_spec (ws := (.codeWith yL_drawing cL_drawing 4 (some .int) [(0, 9, 12, 13)] :: aw)) B.pre w (List.mem_cons_of_mem _ h)
  have hown : s.vm.findClass RL = some m.cls := findClass_of_methodNamed B.named
  have hlocks := B.notSynchronized
  obtain ⟨hsz, hP, hK, hD0⟩ := hv
  subst hsz
  have hD := hD0.self (sz := s.heap.size)
  generalize hAe : va_A [(x, .inr (0, [.ref rt, .ref dr, .int 0, .int 0, .ref bs, .ref df, .ref ch, .ref pg, .int rs])), (rt, .inl (cR, 16, .inl (fun _ => 0))), (pg, .inr (3, [.int 400, .int 0, .int 0, .int 0, .int 0, .int 0])), (ou, .inl (cU, 1, .inr (.inl fo)))] s.heap.size = A at hD ⊢
  have hA : ∀ q : Nat, s.heap.size ≤ q → A q := fun q h => by rw [← hAe]; exact Or.inr h
  obtain ⟨H, hH⟩ : ∃ H, H = s.heap := ⟨_, rfl⟩
  have hS : va_S A s.heap H [] := by rw [hH]; exact va_S.rf
  rw [← hH] at hP ⊢
  have hP : va_P (dC, dI) kCl [(x, .inr (0, [.ref rt, .ref dr, .int 0, .int 0, .ref bs, .ref df, .ref ch, .ref pg, .int rs])), (rt, .inl (cR, 16, .inl (fun _ => 0))), (pg, .inr (3, [.int 400, .int 0, .int 0, .int 0, .int 0, .int 0])), (ou, .inl (cU, 1, .inr (.inl fo)))] H := hP
  have hl := lv_entry ([.ref x, .int pp, .ref ou]) (n := 4) (Nat.le_of_ble_eq_true rfl)
  rw [lg_entry_eq]
  generalize (lg_sl ([.ref x, .int pp, .ref ou]) ++ List.replicate (4 - (lg_sl ([.ref x, .int pp, .ref ou])).length) Slot.unset).toArray = ls at hl ⊢
  have hl : lv_has ls 4 [(0, .ref x), (1, .int pp), (2, .ref ou)] := hl
  refine lv_aload_n (pc := 0) hx hb dL_drawing_0 rfl (lv_at hl 2 rfl) ?_
  refine lv_iconst (pc := 1) (v := 0) hx hb dL_drawing_1 (by decide) ?_
  refine lv_aload_n (pc := 2) hx hb dL_drawing_2 rfl (lv_at hl 0 rfl) ?_
  refine lv_iload_n (pc := 3) hx hb dL_drawing_3 rfl (lv_at hl 1 rfl) ?_
  have hPc := hP.sub (ws' := [(x, .inr (0, [.ref rt, .ref dr, .int 0, .int 0, .ref bs, .ref df, .ref ch, .ref pg, .int rs])), (rt, .inl (cR, 16, .inl (fun _ => 0))), (pg, .inr (3, [.int 400, .int 0, .int 0, .int 0, .int 0, .int 0]))]) [0, 1, 2] rfl
  have hDc := hD.sub (ws' := [(x, .inr (0, [.ref rt, .ref dr, .int 0, .int 0, .ref bs, .ref df, .ref ch, .ref pg, .int rs])), (rt, .inl (cR, 16, .inl (fun _ => 0))), (pg, .inr (3, [.int 400, .int 0, .int 0, .int 0, .int 0, .int 0]))]) [0, 1, 2] (by decide) rfl
  have hKc := hK.sub (tys' := [(cR, .int)]) [0] rfl
  have hFc := va_free (wc := [(x, .inr (0, [.ref rt, .ref dr, .int 0, .int 0, .ref bs, .ref df, .ref ch, .ref pg, .int rs])), (rt, .inl (cR, 16, .inl (fun _ => 0))), (pg, .inr (3, [.int 400, .int 0, .int 0, .int 0, .int 0, .int 0]))]) hD hS hA [0, 1, 2] rfl
  refine va_calli (pc := 4) (va_runV (As := [.int pp]) (rest := [.int 0, .ref ou]) ⟨hx, hb, hml, hown, hts⟩ (v_drawing l dC dI H.size x rt dr bs df ch pg rs cR pp) (cwV 1 hts (gV wd_278 wd_279 wd_280 wd_35 wd_277) rfl rfl rfl (by decide +kernel) ⟨Nat.le_of_ble_eq_true rfl, Nat.le_of_ble_eq_true rfl⟩) ⟨pW_blind, va_recv (q := (RV, TV, 9)) (q0 := 0) (ci := 0) hK hP rfl rfl, pW_pre hPc hKc hDc⟩ rfl rfl hl.1 rfl (lv_room (Nat.le_of_ble_eq_true rfl)) dL_drawing_4 ⟨Nat.le_of_ble_eq_true rfl, Nat.le_of_ble_eq_true rfl⟩) hS (fun q _ h => hFc q h) hFc (fun r1 u t H1 locs ht hvm hr2 hB hz1 hk1 hS => ?_)
  obtain ⟨hP1, hK1, hD1⟩ := hB
  rw [ht] at hP1
  have hK1 := va_K.moved hvm.symm hK1
  obtain ⟨hP, hD⟩ := va_join (wr := [(ou, .inl (cU, 1, .inr (.inl fo)))]) (w1 := []) hP hD [0, 1, 2] [3] rfl rfl (by decide) (by decide) hk1 hFc hP1 hD1
  generalize H1 = H at hP hS ⊢
  have hP : va_P (dC, dI) kCl [(ou, .inl (cU, 1, .inr (.inl fo)))] H := hP
  have hD : va_D A [(ou, .inl (cU, 1, .inr (.inl fo)))] := hD
  refine W.widen (k := 0) (n := 0) (Nat.le_of_ble_eq_true rfl) (Nat.le_of_ble_eq_true rfl) ?_
  obtain rfl : r1 = (-1) := hr2
  refine lv_i2l (pc := 7) (v := (-1)) hx hb dL_drawing_7 (by decide) ?_
  refine va_last (D := (dC, dI)) (cl := kCl) (pc := 8) hx hb hK hP hD hS 0 1 rfl rfl (vp_in_lit 0 1 (by decide)) dL_drawing_8 (fun H locs hP hD hS => ?_)
  have hP : va_P (dC, dI) kCl [(ou, .inl (cU, 1, .inr (.inl (vp_updL fo (0 : Int32).toNatClampNeg (-1)))))] H := hP
  have hD : va_D A [(ou, .inl (cU, 1, .inr (.inl (vp_updL fo (0 : Int32).toNatClampNeg (-1)))))] := hD
  refine lv_goto (pc := 9) (tgt := 15) hx hb dL_drawing_9 rfl ?_
  refine lv_iconst (pc := 15) (v := 0) hx hb dL_drawing_15 (by decide) ?_
  have hP9 := hP.sub (ws' := [(ou, .inl (cU, 1, .inr (.inl (vp_updL fo (0 : Int32).toNatClampNeg (-1)))))]) [0] rfl
  have hD9 := hD.sub (ws' := [(ou, .inl (cU, 1, .inr (.inl (vp_updL fo (0 : Int32).toNatClampNeg (-1)))))]) [0] (by decide) rfl
  have hK9 := hK.sub (tys' := []) [] rfl
  exact W.iret (pc := 16) hx hb hr (fun t ht hW => ⟨⟨_, (), rfl, rfl, by rw [ht]; exact hP9, va_K.moved hW.alike hK9, hD9⟩, hS.F ht⟩) hS.2.2 dL_drawing_16
set_option maxHeartbeats 4000000 in
set_option maxRecDepth 100000 in
theorem l_out (l : Launch) (dC : Nat → ClassId) (dI : Nat → Nat → Nat) (sz : Nat) (x : Nat) (rt : Nat) (dr : Nat) (bs : Nat) (df : Nat) (ch : Nat) (pg : Nat) (rs : Int32) (cR : ClassId) (ou : Nat) (cU : ClassId) (fo : Nat → Int64) (dd : Int32) (pp : Int32) : Met l yL_out (.codeWith yL_out cL_out 5 (some .int) [(0, 17, 20, 13)] :: aw) ({ frames := 4, cells := 0, slots := 0, locals := 87 }) (pW (dC, dI) sz [(x, .inr (0, [.ref rt, .ref dr, .int 0, .int 0, .ref bs, .ref df, .ref ch, .ref pg, .int rs])), (rt, .inl (cR, 16, .inl (fun _ => 0))), (pg, .inr (3, [.int 400, .int 0, .int 0, .int 0, .int 0, .int 0])), (ou, .inl (cU, 1, .inr (.inl fo)))] [(cR, .int), (cU, .long)] [.ref x, .int dd, .int pp, .ref ou]) (va_Qi (fun r (_ : Unit) => r = 0) (fun _ t => wW (dC, dI) (va_A [(x, .inr (0, [.ref rt, .ref dr, .int 0, .int 0, .ref bs, .ref df, .ref ch, .ref pg, .int rs])), (rt, .inl (cR, 16, .inl (fun _ => 0))), (pg, .inr (3, [.int 400, .int 0, .int 0, .int 0, .int 0, .int 0])), (ou, .inl (cU, 1, .inr (.inl fo)))] sz) [(ou, .inl (cU, 1, .inr (.inl (vp_updL fo (0 : Int32).toNatClampNeg 0))))] [] t) (va_A [(x, .inr (0, [.ref rt, .ref dr, .int 0, .int 0, .ref bs, .ref df, .ref ch, .ref pg, .int rs])), (rt, .inl (cR, 16, .inl (fun _ => 0))), (pg, .inr (3, [.int 400, .int 0, .int 0, .int 0, .int 0, .int 0])), (ou, .inl (cU, 1, .inr (.inl fo)))] sz)) 0 0 (va_A [(x, .inr (0, [.ref rt, .ref dr, .int 0, .int 0, .ref bs, .ref df, .ref ch, .ref pg, .int rs])), (rt, .inl (cR, 16, .inl (fun _ => 0))), (pg, .inr (3, [.int 400, .int 0, .int 0, .int 0, .int 0, .int 0])), (ou, .inl (cU, 1, .inr (.inl fo)))] sz) := by
  refine va_MetW (hh := [(0, 17, 20, 13)]) (cc := cL_out) (maxL := 5) (ret := (some .int)) (by decide) rfl ?_
  intro p e s m args below meth c s₁ B hml hv
  obtain ⟨rfl, hv⟩ := hv
  have hx := B.exec
  have hb := B.bytes
  have hr := B.returns
  have hts : ∀ w ∈ aw, w.before _ s = true := fun w h => atoms_spec (ws := (.codeWith yL_out cL_out 5 (some .int) [(0, 17, 20, 13)] :: aw)) B.pre w (List.mem_cons_of_mem _ h)
  have hown : s.vm.findClass RL = some m.cls := findClass_of_methodNamed B.named
  have hlocks := B.notSynchronized
  obtain ⟨hsz, hP, hK, hD0⟩ := hv
  subst hsz
  have hD := hD0.self (sz := s.heap.size)
  generalize hAe : va_A [(x, .inr (0, [.ref rt, .ref dr, .int 0, .int 0, .ref bs, .ref df, .ref ch, .ref pg, .int rs])), (rt, .inl (cR, 16, .inl (fun _ => 0))), (pg, .inr (3, [.int 400, .int 0, .int 0, .int 0, .int 0, .int 0])), (ou, .inl (cU, 1, .inr (.inl fo)))] s.heap.size = A at hD ⊢
  have hA : ∀ q : Nat, s.heap.size ≤ q → A q := fun q h => by rw [← hAe]; exact Or.inr h
  obtain ⟨H, hH⟩ : ∃ H, H = s.heap := ⟨_, rfl⟩
  have hS : va_S A s.heap H [] := by rw [hH]; exact va_S.rf
  rw [← hH] at hP ⊢
  have hP : va_P (dC, dI) kCl [(x, .inr (0, [.ref rt, .ref dr, .int 0, .int 0, .ref bs, .ref df, .ref ch, .ref pg, .int rs])), (rt, .inl (cR, 16, .inl (fun _ => 0))), (pg, .inr (3, [.int 400, .int 0, .int 0, .int 0, .int 0, .int 0])), (ou, .inl (cU, 1, .inr (.inl fo)))] H := hP
  have hl := lv_entry ([.ref x, .int dd, .int pp, .ref ou]) (n := 5) (Nat.le_of_ble_eq_true rfl)
  rw [lg_entry_eq]
  generalize (lg_sl ([.ref x, .int dd, .int pp, .ref ou]) ++ List.replicate (5 - (lg_sl ([.ref x, .int dd, .int pp, .ref ou])).length) Slot.unset).toArray = ls at hl ⊢
  have hl : lv_has ls 5 [(0, .ref x), (1, .int dd), (2, .int pp), (3, .ref ou)] := hl
  refine lv_aload_n (pc := 0) hx hb dL_out_0 rfl (lv_at hl 3 rfl) ?_
  refine lv_iconst (pc := 1) (v := 0) hx hb dL_out_1 (by decide) ?_
  refine lv_aload_n (pc := 2) hx hb dL_out_2 rfl (lv_at hl 0 rfl) ?_
  refine lv_iload_n (pc := 3) hx hb dL_out_3 rfl (lv_at hl 1 rfl) ?_
  refine lv_iload_n (pc := 4) hx hb dL_out_4 rfl (lv_at hl 2 rfl) ?_
  have hPc := hP.sub (ws' := [(x, .inr (0, [.ref rt, .ref dr, .int 0, .int 0, .ref bs, .ref df, .ref ch, .ref pg, .int rs])), (rt, .inl (cR, 16, .inl (fun _ => 0))), (pg, .inr (3, [.int 400, .int 0, .int 0, .int 0, .int 0, .int 0]))]) [0, 1, 2] rfl
  have hDc := hD.sub (ws' := [(x, .inr (0, [.ref rt, .ref dr, .int 0, .int 0, .ref bs, .ref df, .ref ch, .ref pg, .int rs])), (rt, .inl (cR, 16, .inl (fun _ => 0))), (pg, .inr (3, [.int 400, .int 0, .int 0, .int 0, .int 0, .int 0]))]) [0, 1, 2] (by decide) rfl
  have hKc := hK.sub (tys' := [(cR, .int)]) [0] rfl
  have hFc := va_free (wc := [(x, .inr (0, [.ref rt, .ref dr, .int 0, .int 0, .ref bs, .ref df, .ref ch, .ref pg, .int rs])), (rt, .inl (cR, 16, .inl (fun _ => 0))), (pg, .inr (3, [.int 400, .int 0, .int 0, .int 0, .int 0, .int 0]))]) hD hS hA [0, 1, 2] rfl
  refine va_calli (pc := 5) (va_runV (As := [.int dd, .int pp]) (rest := [.int 0, .ref ou]) ⟨hx, hb, hml, hown, hts⟩ (v_out l dC dI H.size x rt dr bs df ch pg rs cR dd pp) (cwV 2 hts (gV wd_282 wd_283 wd_284 wd_35 wd_281) rfl rfl rfl (by decide +kernel) ⟨Nat.le_of_ble_eq_true rfl, Nat.le_of_ble_eq_true rfl⟩) ⟨pW_blind, va_recv (q := (RV, TV, 9)) (q0 := 0) (ci := 0) hK hP rfl rfl, pW_pre hPc hKc hDc⟩ rfl rfl hl.1 rfl (lv_room (Nat.le_of_ble_eq_true rfl)) dL_out_5 ⟨Nat.le_of_ble_eq_true rfl, Nat.le_of_ble_eq_true rfl⟩) hS (fun q _ h => hFc q h) hFc (fun r1 u t H1 locs ht hvm hr2 hB hz1 hk1 hS => ?_)
  obtain ⟨hP1, hK1, hD1⟩ := hB
  rw [ht] at hP1
  have hK1 := va_K.moved hvm.symm hK1
  obtain ⟨hP, hD⟩ := va_join (wr := [(ou, .inl (cU, 1, .inr (.inl fo)))]) (w1 := []) hP hD [0, 1, 2] [3] rfl rfl (by decide) (by decide) hk1 hFc hP1 hD1
  generalize H1 = H at hP hS ⊢
  have hP : va_P (dC, dI) kCl [(ou, .inl (cU, 1, .inr (.inl fo)))] H := hP
  have hD : va_D A [(ou, .inl (cU, 1, .inr (.inl fo)))] := hD
  refine W.widen (k := 0) (n := 0) (Nat.le_of_ble_eq_true rfl) (Nat.le_of_ble_eq_true rfl) ?_
  obtain rfl : r1 = 0 := hr2
  refine lv_if_eq (pc := 8) (tgt := 15) hx hb dL_out_8 rfl (fun h4 => ?_) (fun h4 => absurd h4 (by decide))
  refine lv_lconst (pc := 15) (v := 0) hx hb dL_out_15 (by decide) ?_
  refine va_last (D := (dC, dI)) (cl := kCl) (pc := 16) hx hb hK hP hD hS 0 1 rfl rfl (vp_in_lit 0 1 (by decide)) dL_out_16 (fun H locs hP hD hS => ?_)
  have hP : va_P (dC, dI) kCl [(ou, .inl (cU, 1, .inr (.inl (vp_updL fo (0 : Int32).toNatClampNeg 0))))] H := hP
  have hD : va_D A [(ou, .inl (cU, 1, .inr (.inl (vp_updL fo (0 : Int32).toNatClampNeg 0))))] := hD
  refine lv_goto (pc := 17) (tgt := 24) hx hb dL_out_17 rfl ?_
  refine lv_iconst (pc := 24) (v := 0) hx hb dL_out_24 (by decide) ?_
  have hP9 := hP.sub (ws' := [(ou, .inl (cU, 1, .inr (.inl (vp_updL fo (0 : Int32).toNatClampNeg 0))))]) [0] rfl
  have hD9 := hD.sub (ws' := [(ou, .inl (cU, 1, .inr (.inl (vp_updL fo (0 : Int32).toNatClampNeg 0))))]) [0] (by decide) rfl
  have hK9 := hK.sub (tys' := []) [] rfl
  exact W.iret (pc := 25) hx hb hr (fun t ht hW => ⟨⟨_, (), rfl, rfl, by rw [ht]; exact hP9, va_K.moved hW.alike hK9, hD9⟩, hS.F ht⟩) hS.2.2 dL_out_25
set_option maxHeartbeats 4000000 in
set_option maxRecDepth 100000 in
theorem l_undo (l : Launch) (dC : Nat → ClassId) (dI : Nat → Nat → Nat) (sz : Nat) (x : Nat) (rt : Nat) (dr : Nat) (bs : Nat) (df : Nat) (ch : Nat) (pg : Nat) (rs : Int32) (cR : ClassId) (ou : Nat) (cU : ClassId) (fo : Nat → Int64) (dd : Int32) (pp : Int32) : Met l yL_undo (.codeWith yL_undo cL_undo 5 (some .int) [(0, 17, 20, 13)] :: aw) ({ frames := 4, cells := 0, slots := 0, locals := 87 }) (pW (dC, dI) sz [(x, .inr (0, [.ref rt, .ref dr, .int 0, .int 0, .ref bs, .ref df, .ref ch, .ref pg, .int rs])), (rt, .inl (cR, 16, .inl (fun _ => 0))), (pg, .inr (3, [.int 400, .int 0, .int 0, .int 0, .int 0, .int 0])), (ou, .inl (cU, 1, .inr (.inl fo)))] [(cR, .int), (cU, .long)] [.ref x, .int dd, .int pp, .ref ou]) (va_Qi (fun r (_ : Unit) => r = 0) (fun _ t => wW (dC, dI) (va_A [(x, .inr (0, [.ref rt, .ref dr, .int 0, .int 0, .ref bs, .ref df, .ref ch, .ref pg, .int rs])), (rt, .inl (cR, 16, .inl (fun _ => 0))), (pg, .inr (3, [.int 400, .int 0, .int 0, .int 0, .int 0, .int 0])), (ou, .inl (cU, 1, .inr (.inl fo)))] sz) [(ou, .inl (cU, 1, .inr (.inl (vp_updL fo (0 : Int32).toNatClampNeg 0))))] [] t) (va_A [(x, .inr (0, [.ref rt, .ref dr, .int 0, .int 0, .ref bs, .ref df, .ref ch, .ref pg, .int rs])), (rt, .inl (cR, 16, .inl (fun _ => 0))), (pg, .inr (3, [.int 400, .int 0, .int 0, .int 0, .int 0, .int 0])), (ou, .inl (cU, 1, .inr (.inl fo)))] sz)) 0 0 (va_A [(x, .inr (0, [.ref rt, .ref dr, .int 0, .int 0, .ref bs, .ref df, .ref ch, .ref pg, .int rs])), (rt, .inl (cR, 16, .inl (fun _ => 0))), (pg, .inr (3, [.int 400, .int 0, .int 0, .int 0, .int 0, .int 0])), (ou, .inl (cU, 1, .inr (.inl fo)))] sz) := by
  refine va_MetW (hh := [(0, 17, 20, 13)]) (cc := cL_undo) (maxL := 5) (ret := (some .int)) (by decide) rfl ?_
  intro p e s m args below meth c s₁ B hml hv
  obtain ⟨rfl, hv⟩ := hv
  have hx := B.exec
  have hb := B.bytes
  have hr := B.returns
  have hts : ∀ w ∈ aw, w.before _ s = true := fun w h => atoms_spec (ws := (.codeWith yL_undo cL_undo 5 (some .int) [(0, 17, 20, 13)] :: aw)) B.pre w (List.mem_cons_of_mem _ h)
  have hown : s.vm.findClass RL = some m.cls := findClass_of_methodNamed B.named
  have hlocks := B.notSynchronized
  obtain ⟨hsz, hP, hK, hD0⟩ := hv
  subst hsz
  have hD := hD0.self (sz := s.heap.size)
  generalize hAe : va_A [(x, .inr (0, [.ref rt, .ref dr, .int 0, .int 0, .ref bs, .ref df, .ref ch, .ref pg, .int rs])), (rt, .inl (cR, 16, .inl (fun _ => 0))), (pg, .inr (3, [.int 400, .int 0, .int 0, .int 0, .int 0, .int 0])), (ou, .inl (cU, 1, .inr (.inl fo)))] s.heap.size = A at hD ⊢
  have hA : ∀ q : Nat, s.heap.size ≤ q → A q := fun q h => by rw [← hAe]; exact Or.inr h
  obtain ⟨H, hH⟩ : ∃ H, H = s.heap := ⟨_, rfl⟩
  have hS : va_S A s.heap H [] := by rw [hH]; exact va_S.rf
  rw [← hH] at hP ⊢
  have hP : va_P (dC, dI) kCl [(x, .inr (0, [.ref rt, .ref dr, .int 0, .int 0, .ref bs, .ref df, .ref ch, .ref pg, .int rs])), (rt, .inl (cR, 16, .inl (fun _ => 0))), (pg, .inr (3, [.int 400, .int 0, .int 0, .int 0, .int 0, .int 0])), (ou, .inl (cU, 1, .inr (.inl fo)))] H := hP
  have hl := lv_entry ([.ref x, .int dd, .int pp, .ref ou]) (n := 5) (Nat.le_of_ble_eq_true rfl)
  rw [lg_entry_eq]
  generalize (lg_sl ([.ref x, .int dd, .int pp, .ref ou]) ++ List.replicate (5 - (lg_sl ([.ref x, .int dd, .int pp, .ref ou])).length) Slot.unset).toArray = ls at hl ⊢
  have hl : lv_has ls 5 [(0, .ref x), (1, .int dd), (2, .int pp), (3, .ref ou)] := hl
  refine lv_aload_n (pc := 0) hx hb dL_undo_0 rfl (lv_at hl 3 rfl) ?_
  refine lv_iconst (pc := 1) (v := 0) hx hb dL_undo_1 (by decide) ?_
  refine lv_aload_n (pc := 2) hx hb dL_undo_2 rfl (lv_at hl 0 rfl) ?_
  refine lv_iload_n (pc := 3) hx hb dL_undo_3 rfl (lv_at hl 1 rfl) ?_
  refine lv_iload_n (pc := 4) hx hb dL_undo_4 rfl (lv_at hl 2 rfl) ?_
  have hPc := hP.sub (ws' := [(x, .inr (0, [.ref rt, .ref dr, .int 0, .int 0, .ref bs, .ref df, .ref ch, .ref pg, .int rs])), (rt, .inl (cR, 16, .inl (fun _ => 0))), (pg, .inr (3, [.int 400, .int 0, .int 0, .int 0, .int 0, .int 0]))]) [0, 1, 2] rfl
  have hDc := hD.sub (ws' := [(x, .inr (0, [.ref rt, .ref dr, .int 0, .int 0, .ref bs, .ref df, .ref ch, .ref pg, .int rs])), (rt, .inl (cR, 16, .inl (fun _ => 0))), (pg, .inr (3, [.int 400, .int 0, .int 0, .int 0, .int 0, .int 0]))]) [0, 1, 2] (by decide) rfl
  have hKc := hK.sub (tys' := [(cR, .int)]) [0] rfl
  have hFc := va_free (wc := [(x, .inr (0, [.ref rt, .ref dr, .int 0, .int 0, .ref bs, .ref df, .ref ch, .ref pg, .int rs])), (rt, .inl (cR, 16, .inl (fun _ => 0))), (pg, .inr (3, [.int 400, .int 0, .int 0, .int 0, .int 0, .int 0]))]) hD hS hA [0, 1, 2] rfl
  refine va_calli (pc := 5) (va_runV (As := [.int dd, .int pp]) (rest := [.int 0, .ref ou]) ⟨hx, hb, hml, hown, hts⟩ (v_undo l dC dI H.size x rt dr bs df ch pg rs cR dd pp) (cwV 2 hts (gV wd_286 wd_287 wd_288 wd_35 wd_285) rfl rfl rfl (by decide +kernel) ⟨Nat.le_of_ble_eq_true rfl, Nat.le_of_ble_eq_true rfl⟩) ⟨pW_blind, va_recv (q := (RV, TV, 9)) (q0 := 0) (ci := 0) hK hP rfl rfl, pW_pre hPc hKc hDc⟩ rfl rfl hl.1 rfl (lv_room (Nat.le_of_ble_eq_true rfl)) dL_undo_5 ⟨Nat.le_of_ble_eq_true rfl, Nat.le_of_ble_eq_true rfl⟩) hS (fun q _ h => hFc q h) hFc (fun r1 u t H1 locs ht hvm hr2 hB hz1 hk1 hS => ?_)
  obtain ⟨hP1, hK1, hD1⟩ := hB
  rw [ht] at hP1
  have hK1 := va_K.moved hvm.symm hK1
  obtain ⟨hP, hD⟩ := va_join (wr := [(ou, .inl (cU, 1, .inr (.inl fo)))]) (w1 := []) hP hD [0, 1, 2] [3] rfl rfl (by decide) (by decide) hk1 hFc hP1 hD1
  generalize H1 = H at hP hS ⊢
  have hP : va_P (dC, dI) kCl [(ou, .inl (cU, 1, .inr (.inl fo)))] H := hP
  have hD : va_D A [(ou, .inl (cU, 1, .inr (.inl fo)))] := hD
  refine W.widen (k := 0) (n := 0) (Nat.le_of_ble_eq_true rfl) (Nat.le_of_ble_eq_true rfl) ?_
  obtain rfl : r1 = 0 := hr2
  refine lv_if_eq (pc := 8) (tgt := 15) hx hb dL_undo_8 rfl (fun h4 => ?_) (fun h4 => absurd h4 (by decide))
  refine lv_lconst (pc := 15) (v := 0) hx hb dL_undo_15 (by decide) ?_
  refine va_last (D := (dC, dI)) (cl := kCl) (pc := 16) hx hb hK hP hD hS 0 1 rfl rfl (vp_in_lit 0 1 (by decide)) dL_undo_16 (fun H locs hP hD hS => ?_)
  have hP : va_P (dC, dI) kCl [(ou, .inl (cU, 1, .inr (.inl (vp_updL fo (0 : Int32).toNatClampNeg 0))))] H := hP
  have hD : va_D A [(ou, .inl (cU, 1, .inr (.inl (vp_updL fo (0 : Int32).toNatClampNeg 0))))] := hD
  refine lv_goto (pc := 17) (tgt := 24) hx hb dL_undo_17 rfl ?_
  refine lv_iconst (pc := 24) (v := 0) hx hb dL_undo_24 (by decide) ?_
  have hP9 := hP.sub (ws' := [(ou, .inl (cU, 1, .inr (.inl (vp_updL fo (0 : Int32).toNatClampNeg 0))))]) [0] rfl
  have hD9 := hD.sub (ws' := [(ou, .inl (cU, 1, .inr (.inl (vp_updL fo (0 : Int32).toNatClampNeg 0))))]) [0] (by decide) rfl
  have hK9 := hK.sub (tys' := []) [] rfl
  exact W.iret (pc := 25) hx hb hr (fun t ht hW => ⟨⟨_, (), rfl, rfl, by rw [ht]; exact hP9, va_K.moved hW.alike hK9, hD9⟩, hS.F ht⟩) hS.2.2 dL_undo_25
set_option maxHeartbeats 4000000 in
set_option maxRecDepth 100000 in
theorem l_put (l : Launch) (dC : Nat → ClassId) (dI : Nat → Nat → Nat) (sz : Nat) (x : Nat) (rt : Nat) (dr : Nat) (bs : Nat) (df : Nat) (ch : Nat) (pg : Nat) (rs : Int32) (cR : ClassId) (ou : Nat) (cU : ClassId) (fo : Nat → Int64) (dd : Int32) (pp : Int32) (ta : Int32) (va : Int32) : Met l yL_put (.codeWith yL_put cL_put 7 (some .int) [(0, 21, 24, 13)] :: aw) ({ frames := 4, cells := 0, slots := 0, locals := 90 }) (pW (dC, dI) sz [(x, .inr (0, [.ref rt, .ref dr, .int 0, .int 0, .ref bs, .ref df, .ref ch, .ref pg, .int rs])), (rt, .inl (cR, 16, .inl (fun _ => 0))), (pg, .inr (3, [.int 400, .int 0, .int 0, .int 0, .int 0, .int 0])), (ou, .inl (cU, 1, .inr (.inl fo)))] [(cR, .int), (cU, .long)] [.ref x, .int dd, .int pp, .int ta, .int va, .ref ou]) (va_Qi (fun r (_ : Unit) => r = 0) (fun _ t => wW (dC, dI) (va_A [(x, .inr (0, [.ref rt, .ref dr, .int 0, .int 0, .ref bs, .ref df, .ref ch, .ref pg, .int rs])), (rt, .inl (cR, 16, .inl (fun _ => 0))), (pg, .inr (3, [.int 400, .int 0, .int 0, .int 0, .int 0, .int 0])), (ou, .inl (cU, 1, .inr (.inl fo)))] sz) [(ou, .inl (cU, 1, .inr (.inl (vp_updL fo (0 : Int32).toNatClampNeg 0))))] [] t) (va_A [(x, .inr (0, [.ref rt, .ref dr, .int 0, .int 0, .ref bs, .ref df, .ref ch, .ref pg, .int rs])), (rt, .inl (cR, 16, .inl (fun _ => 0))), (pg, .inr (3, [.int 400, .int 0, .int 0, .int 0, .int 0, .int 0])), (ou, .inl (cU, 1, .inr (.inl fo)))] sz)) 0 0 (va_A [(x, .inr (0, [.ref rt, .ref dr, .int 0, .int 0, .ref bs, .ref df, .ref ch, .ref pg, .int rs])), (rt, .inl (cR, 16, .inl (fun _ => 0))), (pg, .inr (3, [.int 400, .int 0, .int 0, .int 0, .int 0, .int 0])), (ou, .inl (cU, 1, .inr (.inl fo)))] sz) := by
  refine va_MetW (hh := [(0, 21, 24, 13)]) (cc := cL_put) (maxL := 7) (ret := (some .int)) (by decide) rfl ?_
  intro p e s m args below meth c s₁ B hml hv
  obtain ⟨rfl, hv⟩ := hv
  have hx := B.exec
  have hb := B.bytes
  have hr := B.returns
  have hts : ∀ w ∈ aw, w.before _ s = true := fun w h => atoms_spec (ws := (.codeWith yL_put cL_put 7 (some .int) [(0, 21, 24, 13)] :: aw)) B.pre w (List.mem_cons_of_mem _ h)
  have hown : s.vm.findClass RL = some m.cls := findClass_of_methodNamed B.named
  have hlocks := B.notSynchronized
  obtain ⟨hsz, hP, hK, hD0⟩ := hv
  subst hsz
  have hD := hD0.self (sz := s.heap.size)
  generalize hAe : va_A [(x, .inr (0, [.ref rt, .ref dr, .int 0, .int 0, .ref bs, .ref df, .ref ch, .ref pg, .int rs])), (rt, .inl (cR, 16, .inl (fun _ => 0))), (pg, .inr (3, [.int 400, .int 0, .int 0, .int 0, .int 0, .int 0])), (ou, .inl (cU, 1, .inr (.inl fo)))] s.heap.size = A at hD ⊢
  have hA : ∀ q : Nat, s.heap.size ≤ q → A q := fun q h => by rw [← hAe]; exact Or.inr h
  obtain ⟨H, hH⟩ : ∃ H, H = s.heap := ⟨_, rfl⟩
  have hS : va_S A s.heap H [] := by rw [hH]; exact va_S.rf
  rw [← hH] at hP ⊢
  have hP : va_P (dC, dI) kCl [(x, .inr (0, [.ref rt, .ref dr, .int 0, .int 0, .ref bs, .ref df, .ref ch, .ref pg, .int rs])), (rt, .inl (cR, 16, .inl (fun _ => 0))), (pg, .inr (3, [.int 400, .int 0, .int 0, .int 0, .int 0, .int 0])), (ou, .inl (cU, 1, .inr (.inl fo)))] H := hP
  have hl := lv_entry ([.ref x, .int dd, .int pp, .int ta, .int va, .ref ou]) (n := 7) (Nat.le_of_ble_eq_true rfl)
  rw [lg_entry_eq]
  generalize (lg_sl ([.ref x, .int dd, .int pp, .int ta, .int va, .ref ou]) ++ List.replicate (7 - (lg_sl ([.ref x, .int dd, .int pp, .int ta, .int va, .ref ou])).length) Slot.unset).toArray = ls at hl ⊢
  have hl : lv_has ls 7 [(0, .ref x), (1, .int dd), (2, .int pp), (3, .int ta), (4, .int va), (5, .ref ou)] := hl
  refine lv_aload (pc := 0) hx hb dL_put_0 (lv_at hl 5 rfl) ?_
  refine lv_iconst (pc := 2) (v := 0) hx hb dL_put_2 (by decide) ?_
  refine lv_aload_n (pc := 3) hx hb dL_put_3 rfl (lv_at hl 0 rfl) ?_
  refine lv_iload_n (pc := 4) hx hb dL_put_4 rfl (lv_at hl 1 rfl) ?_
  refine lv_iload_n (pc := 5) hx hb dL_put_5 rfl (lv_at hl 2 rfl) ?_
  refine lv_iload_n (pc := 6) hx hb dL_put_6 rfl (lv_at hl 3 rfl) ?_
  refine lv_iload (pc := 7) hx hb dL_put_7 (lv_at hl 4 rfl) ?_
  have hPc := hP.sub (ws' := [(x, .inr (0, [.ref rt, .ref dr, .int 0, .int 0, .ref bs, .ref df, .ref ch, .ref pg, .int rs])), (rt, .inl (cR, 16, .inl (fun _ => 0))), (pg, .inr (3, [.int 400, .int 0, .int 0, .int 0, .int 0, .int 0]))]) [0, 1, 2] rfl
  have hDc := hD.sub (ws' := [(x, .inr (0, [.ref rt, .ref dr, .int 0, .int 0, .ref bs, .ref df, .ref ch, .ref pg, .int rs])), (rt, .inl (cR, 16, .inl (fun _ => 0))), (pg, .inr (3, [.int 400, .int 0, .int 0, .int 0, .int 0, .int 0]))]) [0, 1, 2] (by decide) rfl
  have hKc := hK.sub (tys' := [(cR, .int)]) [0] rfl
  have hFc := va_free (wc := [(x, .inr (0, [.ref rt, .ref dr, .int 0, .int 0, .ref bs, .ref df, .ref ch, .ref pg, .int rs])), (rt, .inl (cR, 16, .inl (fun _ => 0))), (pg, .inr (3, [.int 400, .int 0, .int 0, .int 0, .int 0, .int 0]))]) hD hS hA [0, 1, 2] rfl
  refine va_calli (pc := 9) (va_runV (As := [.int dd, .int pp, .int ta, .int va]) (rest := [.int 0, .ref ou]) ⟨hx, hb, hml, hown, hts⟩ (v_put l dC dI H.size x rt dr bs df ch pg rs cR dd pp ta va) (cwV 4 hts (gV wd_290 wd_291 wd_292 wd_35 wd_289) rfl rfl rfl (by decide +kernel) ⟨Nat.le_of_ble_eq_true rfl, Nat.le_of_ble_eq_true rfl⟩) ⟨pW_blind, va_recv (q := (RV, TV, 9)) (q0 := 0) (ci := 0) hK hP rfl rfl, pW_pre hPc hKc hDc⟩ rfl rfl hl.1 rfl (lv_room (Nat.le_of_ble_eq_true rfl)) dL_put_9 ⟨Nat.le_of_ble_eq_true rfl, Nat.le_of_ble_eq_true rfl⟩) hS (fun q _ h => hFc q h) hFc (fun r1 u t H1 locs ht hvm hr2 hB hz1 hk1 hS => ?_)
  obtain ⟨hP1, hK1, hD1⟩ := hB
  rw [ht] at hP1
  have hK1 := va_K.moved hvm.symm hK1
  obtain ⟨hP, hD⟩ := va_join (wr := [(ou, .inl (cU, 1, .inr (.inl fo)))]) (w1 := []) hP hD [0, 1, 2] [3] rfl rfl (by decide) (by decide) hk1 hFc hP1 hD1
  generalize H1 = H at hP hS ⊢
  have hP : va_P (dC, dI) kCl [(ou, .inl (cU, 1, .inr (.inl fo)))] H := hP
  have hD : va_D A [(ou, .inl (cU, 1, .inr (.inl fo)))] := hD
  refine W.widen (k := 0) (n := 0) (Nat.le_of_ble_eq_true rfl) (Nat.le_of_ble_eq_true rfl) ?_
  obtain rfl : r1 = 0 := hr2
  refine lv_if_eq (pc := 12) (tgt := 19) hx hb dL_put_12 rfl (fun h4 => ?_) (fun h4 => absurd h4 (by decide))
  refine lv_lconst (pc := 19) (v := 0) hx hb dL_put_19 (by decide) ?_
  refine va_last (D := (dC, dI)) (cl := kCl) (pc := 20) hx hb hK hP hD hS 0 1 rfl rfl (vp_in_lit 0 1 (by decide)) dL_put_20 (fun H locs hP hD hS => ?_)
  have hP : va_P (dC, dI) kCl [(ou, .inl (cU, 1, .inr (.inl (vp_updL fo (0 : Int32).toNatClampNeg 0))))] H := hP
  have hD : va_D A [(ou, .inl (cU, 1, .inr (.inl (vp_updL fo (0 : Int32).toNatClampNeg 0))))] := hD
  refine lv_goto (pc := 21) (tgt := 28) hx hb dL_put_21 rfl ?_
  refine lv_iconst (pc := 28) (v := 0) hx hb dL_put_28 (by decide) ?_
  have hP9 := hP.sub (ws' := [(ou, .inl (cU, 1, .inr (.inl (vp_updL fo (0 : Int32).toNatClampNeg 0))))]) [0] rfl
  have hD9 := hD.sub (ws' := [(ou, .inl (cU, 1, .inr (.inl (vp_updL fo (0 : Int32).toNatClampNeg 0))))]) [0] (by decide) rfl
  have hK9 := hK.sub (tys' := []) [] rfl
  exact W.iret (pc := 29) hx hb hr (fun t ht hW => ⟨⟨_, (), rfl, rfl, by rw [ht]; exact hP9, va_K.moved hW.alike hK9, hD9⟩, hS.F ht⟩) hS.2.2 dL_put_29
set_option maxHeartbeats 4000000 in
set_option maxRecDepth 100000 in
theorem l_resize (l : Launch) (dC : Nat → ClassId) (dI : Nat → Nat → Nat) (sz : Nat) (x : Nat) (rt : Nat) (dr : Nat) (bs : Nat) (df : Nat) (ch : Nat) (pg : Nat) (rs : Int32) (cR : ClassId) (ou : Nat) (cU : ClassId) (fo : Nat → Int64) (dd : Int32) (pp : Int32) (bn : Int32) : Met l yL_resize (.codeWith yL_resize cL_resize 6 (some .int) [(0, 19, 22, 13)] :: aw) ({ frames := 4, cells := 0, slots := 0, locals := 89 }) (pW (dC, dI) sz [(x, .inr (0, [.ref rt, .ref dr, .int 0, .int 0, .ref bs, .ref df, .ref ch, .ref pg, .int rs])), (rt, .inl (cR, 16, .inl (fun _ => 0))), (pg, .inr (3, [.int 400, .int 0, .int 0, .int 0, .int 0, .int 0])), (ou, .inl (cU, 1, .inr (.inl fo)))] [(cR, .int), (cU, .long)] [.ref x, .int dd, .int pp, .int bn, .ref ou]) (va_Qi (fun r (_ : Unit) => r = 0) (fun _ t => wW (dC, dI) (va_A [(x, .inr (0, [.ref rt, .ref dr, .int 0, .int 0, .ref bs, .ref df, .ref ch, .ref pg, .int rs])), (rt, .inl (cR, 16, .inl (fun _ => 0))), (pg, .inr (3, [.int 400, .int 0, .int 0, .int 0, .int 0, .int 0])), (ou, .inl (cU, 1, .inr (.inl fo)))] sz) [(ou, .inl (cU, 1, .inr (.inl (vp_updL fo (0 : Int32).toNatClampNeg 0))))] [] t) (va_A [(x, .inr (0, [.ref rt, .ref dr, .int 0, .int 0, .ref bs, .ref df, .ref ch, .ref pg, .int rs])), (rt, .inl (cR, 16, .inl (fun _ => 0))), (pg, .inr (3, [.int 400, .int 0, .int 0, .int 0, .int 0, .int 0])), (ou, .inl (cU, 1, .inr (.inl fo)))] sz)) 0 0 (va_A [(x, .inr (0, [.ref rt, .ref dr, .int 0, .int 0, .ref bs, .ref df, .ref ch, .ref pg, .int rs])), (rt, .inl (cR, 16, .inl (fun _ => 0))), (pg, .inr (3, [.int 400, .int 0, .int 0, .int 0, .int 0, .int 0])), (ou, .inl (cU, 1, .inr (.inl fo)))] sz) := by
  refine va_MetW (hh := [(0, 19, 22, 13)]) (cc := cL_resize) (maxL := 6) (ret := (some .int)) (by decide) rfl ?_
  intro p e s m args below meth c s₁ B hml hv
  obtain ⟨rfl, hv⟩ := hv
  have hx := B.exec
  have hb := B.bytes
  have hr := B.returns
  have hts : ∀ w ∈ aw, w.before _ s = true := fun w h => atoms_spec (ws := (.codeWith yL_resize cL_resize 6 (some .int) [(0, 19, 22, 13)] :: aw)) B.pre w (List.mem_cons_of_mem _ h)
  have hown : s.vm.findClass RL = some m.cls := findClass_of_methodNamed B.named
  have hlocks := B.notSynchronized
  obtain ⟨hsz, hP, hK, hD0⟩ := hv
  subst hsz
  have hD := hD0.self (sz := s.heap.size)
  generalize hAe : va_A [(x, .inr (0, [.ref rt, .ref dr, .int 0, .int 0, .ref bs, .ref df, .ref ch, .ref pg, .int rs])), (rt, .inl (cR, 16, .inl (fun _ => 0))), (pg, .inr (3, [.int 400, .int 0, .int 0, .int 0, .int 0, .int 0])), (ou, .inl (cU, 1, .inr (.inl fo)))] s.heap.size = A at hD ⊢
  have hA : ∀ q : Nat, s.heap.size ≤ q → A q := fun q h => by rw [← hAe]; exact Or.inr h
  obtain ⟨H, hH⟩ : ∃ H, H = s.heap := ⟨_, rfl⟩
  have hS : va_S A s.heap H [] := by rw [hH]; exact va_S.rf
  rw [← hH] at hP ⊢
  have hP : va_P (dC, dI) kCl [(x, .inr (0, [.ref rt, .ref dr, .int 0, .int 0, .ref bs, .ref df, .ref ch, .ref pg, .int rs])), (rt, .inl (cR, 16, .inl (fun _ => 0))), (pg, .inr (3, [.int 400, .int 0, .int 0, .int 0, .int 0, .int 0])), (ou, .inl (cU, 1, .inr (.inl fo)))] H := hP
  have hl := lv_entry ([.ref x, .int dd, .int pp, .int bn, .ref ou]) (n := 6) (Nat.le_of_ble_eq_true rfl)
  rw [lg_entry_eq]
  generalize (lg_sl ([.ref x, .int dd, .int pp, .int bn, .ref ou]) ++ List.replicate (6 - (lg_sl ([.ref x, .int dd, .int pp, .int bn, .ref ou])).length) Slot.unset).toArray = ls at hl ⊢
  have hl : lv_has ls 6 [(0, .ref x), (1, .int dd), (2, .int pp), (3, .int bn), (4, .ref ou)] := hl
  refine lv_aload (pc := 0) hx hb dL_resize_0 (lv_at hl 4 rfl) ?_
  refine lv_iconst (pc := 2) (v := 0) hx hb dL_resize_2 (by decide) ?_
  refine lv_aload_n (pc := 3) hx hb dL_resize_3 rfl (lv_at hl 0 rfl) ?_
  refine lv_iload_n (pc := 4) hx hb dL_resize_4 rfl (lv_at hl 1 rfl) ?_
  refine lv_iload_n (pc := 5) hx hb dL_resize_5 rfl (lv_at hl 2 rfl) ?_
  refine lv_iload_n (pc := 6) hx hb dL_resize_6 rfl (lv_at hl 3 rfl) ?_
  have hPc := hP.sub (ws' := [(x, .inr (0, [.ref rt, .ref dr, .int 0, .int 0, .ref bs, .ref df, .ref ch, .ref pg, .int rs])), (rt, .inl (cR, 16, .inl (fun _ => 0))), (pg, .inr (3, [.int 400, .int 0, .int 0, .int 0, .int 0, .int 0]))]) [0, 1, 2] rfl
  have hDc := hD.sub (ws' := [(x, .inr (0, [.ref rt, .ref dr, .int 0, .int 0, .ref bs, .ref df, .ref ch, .ref pg, .int rs])), (rt, .inl (cR, 16, .inl (fun _ => 0))), (pg, .inr (3, [.int 400, .int 0, .int 0, .int 0, .int 0, .int 0]))]) [0, 1, 2] (by decide) rfl
  have hKc := hK.sub (tys' := [(cR, .int)]) [0] rfl
  have hFc := va_free (wc := [(x, .inr (0, [.ref rt, .ref dr, .int 0, .int 0, .ref bs, .ref df, .ref ch, .ref pg, .int rs])), (rt, .inl (cR, 16, .inl (fun _ => 0))), (pg, .inr (3, [.int 400, .int 0, .int 0, .int 0, .int 0, .int 0]))]) hD hS hA [0, 1, 2] rfl
  refine va_calli (pc := 7) (va_runV (As := [.int dd, .int pp, .int bn]) (rest := [.int 0, .ref ou]) ⟨hx, hb, hml, hown, hts⟩ (v_resize l dC dI H.size x rt dr bs df ch pg rs cR dd pp bn) (cwV 3 hts (gV wd_294 wd_295 wd_296 wd_35 wd_293) rfl rfl rfl (by decide +kernel) ⟨Nat.le_of_ble_eq_true rfl, Nat.le_of_ble_eq_true rfl⟩) ⟨pW_blind, va_recv (q := (RV, TV, 9)) (q0 := 0) (ci := 0) hK hP rfl rfl, pW_pre hPc hKc hDc⟩ rfl rfl hl.1 rfl (lv_room (Nat.le_of_ble_eq_true rfl)) dL_resize_7 ⟨Nat.le_of_ble_eq_true rfl, Nat.le_of_ble_eq_true rfl⟩) hS (fun q _ h => hFc q h) hFc (fun r1 u t H1 locs ht hvm hr2 hB hz1 hk1 hS => ?_)
  obtain ⟨hP1, hK1, hD1⟩ := hB
  rw [ht] at hP1
  have hK1 := va_K.moved hvm.symm hK1
  obtain ⟨hP, hD⟩ := va_join (wr := [(ou, .inl (cU, 1, .inr (.inl fo)))]) (w1 := []) hP hD [0, 1, 2] [3] rfl rfl (by decide) (by decide) hk1 hFc hP1 hD1
  generalize H1 = H at hP hS ⊢
  have hP : va_P (dC, dI) kCl [(ou, .inl (cU, 1, .inr (.inl fo)))] H := hP
  have hD : va_D A [(ou, .inl (cU, 1, .inr (.inl fo)))] := hD
  refine W.widen (k := 0) (n := 0) (Nat.le_of_ble_eq_true rfl) (Nat.le_of_ble_eq_true rfl) ?_
  obtain rfl : r1 = 0 := hr2
  refine lv_if_eq (pc := 10) (tgt := 17) hx hb dL_resize_10 rfl (fun h4 => ?_) (fun h4 => absurd h4 (by decide))
  refine lv_lconst (pc := 17) (v := 0) hx hb dL_resize_17 (by decide) ?_
  refine va_last (D := (dC, dI)) (cl := kCl) (pc := 18) hx hb hK hP hD hS 0 1 rfl rfl (vp_in_lit 0 1 (by decide)) dL_resize_18 (fun H locs hP hD hS => ?_)
  have hP : va_P (dC, dI) kCl [(ou, .inl (cU, 1, .inr (.inl (vp_updL fo (0 : Int32).toNatClampNeg 0))))] H := hP
  have hD : va_D A [(ou, .inl (cU, 1, .inr (.inl (vp_updL fo (0 : Int32).toNatClampNeg 0))))] := hD
  refine lv_goto (pc := 19) (tgt := 26) hx hb dL_resize_19 rfl ?_
  refine lv_iconst (pc := 26) (v := 0) hx hb dL_resize_26 (by decide) ?_
  have hP9 := hP.sub (ws' := [(ou, .inl (cU, 1, .inr (.inl (vp_updL fo (0 : Int32).toNatClampNeg 0))))]) [0] rfl
  have hD9 := hD.sub (ws' := [(ou, .inl (cU, 1, .inr (.inl (vp_updL fo (0 : Int32).toNatClampNeg 0))))]) [0] (by decide) rfl
  have hK9 := hK.sub (tys' := []) [] rfl
  exact W.iret (pc := 27) hx hb hr (fun t ht hW => ⟨⟨_, (), rfl, rfl, by rw [ht]; exact hP9, va_K.moved hW.alike hK9, hD9⟩, hS.F ht⟩) hS.2.2 dL_resize_27
set_option maxHeartbeats 4000000 in
set_option maxRecDepth 100000 in
theorem l_ref (l : Launch) (dC : Nat → ClassId) (dI : Nat → Nat → Nat) (sz : Nat) (x : Nat) (rt : Nat) (dr : Nat) (bs : Nat) (df : Nat) (ch : Nat) (pg : Nat) (rs : Int32) (cR : ClassId) (ou : Nat) (cU : ClassId) (fo : Nat → Int64) (dd : Int32) (pp : Int32) (kk : Int32) (tg : Int32) (vv : Int32) : Met l yL_ref (.codeWith yL_ref cL_ref 8 (some .int) [(0, 23, 26, 13)] :: aw) ({ frames := 4, cells := 0, slots := 0, locals := 91 }) (pW (dC, dI) sz [(x, .inr (0, [.ref rt, .ref dr, .int 0, .int 0, .ref bs, .ref df, .ref ch, .ref pg, .int rs])), (rt, .inl (cR, 16, .inl (fun _ => 0))), (pg, .inr (3, [.int 400, .int 0, .int 0, .int 0, .int 0, .int 0])), (ou, .inl (cU, 1, .inr (.inl fo)))] [(cR, .int), (cU, .long)] [.ref x, .int dd, .int pp, .int kk, .int tg, .int vv, .ref ou]) (va_Qi (fun r (_ : Unit) => r = 0) (fun _ t => wW (dC, dI) (va_A [(x, .inr (0, [.ref rt, .ref dr, .int 0, .int 0, .ref bs, .ref df, .ref ch, .ref pg, .int rs])), (rt, .inl (cR, 16, .inl (fun _ => 0))), (pg, .inr (3, [.int 400, .int 0, .int 0, .int 0, .int 0, .int 0])), (ou, .inl (cU, 1, .inr (.inl fo)))] sz) [(ou, .inl (cU, 1, .inr (.inl (vp_updL fo (0 : Int32).toNatClampNeg 0))))] [] t) (va_A [(x, .inr (0, [.ref rt, .ref dr, .int 0, .int 0, .ref bs, .ref df, .ref ch, .ref pg, .int rs])), (rt, .inl (cR, 16, .inl (fun _ => 0))), (pg, .inr (3, [.int 400, .int 0, .int 0, .int 0, .int 0, .int 0])), (ou, .inl (cU, 1, .inr (.inl fo)))] sz)) 0 0 (va_A [(x, .inr (0, [.ref rt, .ref dr, .int 0, .int 0, .ref bs, .ref df, .ref ch, .ref pg, .int rs])), (rt, .inl (cR, 16, .inl (fun _ => 0))), (pg, .inr (3, [.int 400, .int 0, .int 0, .int 0, .int 0, .int 0])), (ou, .inl (cU, 1, .inr (.inl fo)))] sz) := by
  refine va_MetW (hh := [(0, 23, 26, 13)]) (cc := cL_ref) (maxL := 8) (ret := (some .int)) (by decide) rfl ?_
  intro p e s m args below meth c s₁ B hml hv
  obtain ⟨rfl, hv⟩ := hv
  have hx := B.exec
  have hb := B.bytes
  have hr := B.returns
  have hts : ∀ w ∈ aw, w.before _ s = true := fun w h => atoms_spec (ws := (.codeWith yL_ref cL_ref 8 (some .int) [(0, 23, 26, 13)] :: aw)) B.pre w (List.mem_cons_of_mem _ h)
  have hown : s.vm.findClass RL = some m.cls := findClass_of_methodNamed B.named
  have hlocks := B.notSynchronized
  obtain ⟨hsz, hP, hK, hD0⟩ := hv
  subst hsz
  have hD := hD0.self (sz := s.heap.size)
  generalize hAe : va_A [(x, .inr (0, [.ref rt, .ref dr, .int 0, .int 0, .ref bs, .ref df, .ref ch, .ref pg, .int rs])), (rt, .inl (cR, 16, .inl (fun _ => 0))), (pg, .inr (3, [.int 400, .int 0, .int 0, .int 0, .int 0, .int 0])), (ou, .inl (cU, 1, .inr (.inl fo)))] s.heap.size = A at hD ⊢
  have hA : ∀ q : Nat, s.heap.size ≤ q → A q := fun q h => by rw [← hAe]; exact Or.inr h
  obtain ⟨H, hH⟩ : ∃ H, H = s.heap := ⟨_, rfl⟩
  have hS : va_S A s.heap H [] := by rw [hH]; exact va_S.rf
  rw [← hH] at hP ⊢
  have hP : va_P (dC, dI) kCl [(x, .inr (0, [.ref rt, .ref dr, .int 0, .int 0, .ref bs, .ref df, .ref ch, .ref pg, .int rs])), (rt, .inl (cR, 16, .inl (fun _ => 0))), (pg, .inr (3, [.int 400, .int 0, .int 0, .int 0, .int 0, .int 0])), (ou, .inl (cU, 1, .inr (.inl fo)))] H := hP
  have hl := lv_entry ([.ref x, .int dd, .int pp, .int kk, .int tg, .int vv, .ref ou]) (n := 8) (Nat.le_of_ble_eq_true rfl)
  rw [lg_entry_eq]
  generalize (lg_sl ([.ref x, .int dd, .int pp, .int kk, .int tg, .int vv, .ref ou]) ++ List.replicate (8 - (lg_sl ([.ref x, .int dd, .int pp, .int kk, .int tg, .int vv, .ref ou])).length) Slot.unset).toArray = ls at hl ⊢
  have hl : lv_has ls 8 [(0, .ref x), (1, .int dd), (2, .int pp), (3, .int kk), (4, .int tg), (5, .int vv), (6, .ref ou)] := hl
  refine lv_aload (pc := 0) hx hb dL_ref_0 (lv_at hl 6 rfl) ?_
  refine lv_iconst (pc := 2) (v := 0) hx hb dL_ref_2 (by decide) ?_
  refine lv_aload_n (pc := 3) hx hb dL_ref_3 rfl (lv_at hl 0 rfl) ?_
  refine lv_iload_n (pc := 4) hx hb dL_ref_4 rfl (lv_at hl 1 rfl) ?_
  refine lv_iload_n (pc := 5) hx hb dL_ref_5 rfl (lv_at hl 2 rfl) ?_
  refine lv_iload_n (pc := 6) hx hb dL_ref_6 rfl (lv_at hl 3 rfl) ?_
  refine lv_iload (pc := 7) hx hb dL_ref_7 (lv_at hl 4 rfl) ?_
  refine lv_iload (pc := 9) hx hb dL_ref_9 (lv_at hl 5 rfl) ?_
  have hPc := hP.sub (ws' := [(x, .inr (0, [.ref rt, .ref dr, .int 0, .int 0, .ref bs, .ref df, .ref ch, .ref pg, .int rs])), (rt, .inl (cR, 16, .inl (fun _ => 0))), (pg, .inr (3, [.int 400, .int 0, .int 0, .int 0, .int 0, .int 0]))]) [0, 1, 2] rfl
  have hDc := hD.sub (ws' := [(x, .inr (0, [.ref rt, .ref dr, .int 0, .int 0, .ref bs, .ref df, .ref ch, .ref pg, .int rs])), (rt, .inl (cR, 16, .inl (fun _ => 0))), (pg, .inr (3, [.int 400, .int 0, .int 0, .int 0, .int 0, .int 0]))]) [0, 1, 2] (by decide) rfl
  have hKc := hK.sub (tys' := [(cR, .int)]) [0] rfl
  have hFc := va_free (wc := [(x, .inr (0, [.ref rt, .ref dr, .int 0, .int 0, .ref bs, .ref df, .ref ch, .ref pg, .int rs])), (rt, .inl (cR, 16, .inl (fun _ => 0))), (pg, .inr (3, [.int 400, .int 0, .int 0, .int 0, .int 0, .int 0]))]) hD hS hA [0, 1, 2] rfl
  refine va_calli (pc := 11) (va_runV (As := [.int dd, .int pp, .int kk, .int tg, .int vv]) (rest := [.int 0, .ref ou]) ⟨hx, hb, hml, hown, hts⟩ (v_ref l dC dI H.size x rt dr bs df ch pg rs cR dd pp kk tg vv) (cwV 5 hts (gV wd_298 wd_299 wd_300 wd_35 wd_297) rfl rfl rfl (by decide +kernel) ⟨Nat.le_of_ble_eq_true rfl, Nat.le_of_ble_eq_true rfl⟩) ⟨pW_blind, va_recv (q := (RV, TV, 9)) (q0 := 0) (ci := 0) hK hP rfl rfl, pW_pre hPc hKc hDc⟩ rfl rfl hl.1 rfl (lv_room (Nat.le_of_ble_eq_true rfl)) dL_ref_11 ⟨Nat.le_of_ble_eq_true rfl, Nat.le_of_ble_eq_true rfl⟩) hS (fun q _ h => hFc q h) hFc (fun r1 u t H1 locs ht hvm hr2 hB hz1 hk1 hS => ?_)
  obtain ⟨hP1, hK1, hD1⟩ := hB
  rw [ht] at hP1
  have hK1 := va_K.moved hvm.symm hK1
  obtain ⟨hP, hD⟩ := va_join (wr := [(ou, .inl (cU, 1, .inr (.inl fo)))]) (w1 := []) hP hD [0, 1, 2] [3] rfl rfl (by decide) (by decide) hk1 hFc hP1 hD1
  generalize H1 = H at hP hS ⊢
  have hP : va_P (dC, dI) kCl [(ou, .inl (cU, 1, .inr (.inl fo)))] H := hP
  have hD : va_D A [(ou, .inl (cU, 1, .inr (.inl fo)))] := hD
  refine W.widen (k := 0) (n := 0) (Nat.le_of_ble_eq_true rfl) (Nat.le_of_ble_eq_true rfl) ?_
  obtain rfl : r1 = 0 := hr2
  refine lv_if_eq (pc := 14) (tgt := 21) hx hb dL_ref_14 rfl (fun h4 => ?_) (fun h4 => absurd h4 (by decide))
  refine lv_lconst (pc := 21) (v := 0) hx hb dL_ref_21 (by decide) ?_
  refine va_last (D := (dC, dI)) (cl := kCl) (pc := 22) hx hb hK hP hD hS 0 1 rfl rfl (vp_in_lit 0 1 (by decide)) dL_ref_22 (fun H locs hP hD hS => ?_)
  have hP : va_P (dC, dI) kCl [(ou, .inl (cU, 1, .inr (.inl (vp_updL fo (0 : Int32).toNatClampNeg 0))))] H := hP
  have hD : va_D A [(ou, .inl (cU, 1, .inr (.inl (vp_updL fo (0 : Int32).toNatClampNeg 0))))] := hD
  refine lv_goto (pc := 23) (tgt := 30) hx hb dL_ref_23 rfl ?_
  refine lv_iconst (pc := 30) (v := 0) hx hb dL_ref_30 (by decide) ?_
  have hP9 := hP.sub (ws' := [(ou, .inl (cU, 1, .inr (.inl (vp_updL fo (0 : Int32).toNatClampNeg 0))))]) [0] rfl
  have hD9 := hD.sub (ws' := [(ou, .inl (cU, 1, .inr (.inl (vp_updL fo (0 : Int32).toNatClampNeg 0))))]) [0] (by decide) rfl
  have hK9 := hK.sub (tys' := []) [] rfl
  exact W.iret (pc := 31) hx hb hr (fun t ht hW => ⟨⟨_, (), rfl, rfl, by rw [ht]; exact hP9, va_K.moved hW.alike hK9, hD9⟩, hS.F ht⟩) hS.2.2 dL_ref_31
set_option maxHeartbeats 4000000 in
set_option maxRecDepth 100000 in
theorem l_drop (l : Launch) (dC : Nat → ClassId) (dI : Nat → Nat → Nat) (sz : Nat) (x : Nat) (rt : Nat) (dr : Nat) (bs : Nat) (df : Nat) (ch : Nat) (pg : Nat) (rs : Int32) (cR : ClassId) (ou : Nat) (cU : ClassId) (fo : Nat → Int64) (dd : Int32) (pp : Int32) (kk : Int32) : Met l yL_drop (.codeWith yL_drop cL_drop 6 (some .int) [(0, 19, 22, 13)] :: aw) ({ frames := 4, cells := 0, slots := 0, locals := 89 }) (pW (dC, dI) sz [(x, .inr (0, [.ref rt, .ref dr, .int 0, .int 0, .ref bs, .ref df, .ref ch, .ref pg, .int rs])), (rt, .inl (cR, 16, .inl (fun _ => 0))), (pg, .inr (3, [.int 400, .int 0, .int 0, .int 0, .int 0, .int 0])), (ou, .inl (cU, 1, .inr (.inl fo)))] [(cR, .int), (cU, .long)] [.ref x, .int dd, .int pp, .int kk, .ref ou]) (va_Qi (fun r (_ : Unit) => r = 0) (fun _ t => wW (dC, dI) (va_A [(x, .inr (0, [.ref rt, .ref dr, .int 0, .int 0, .ref bs, .ref df, .ref ch, .ref pg, .int rs])), (rt, .inl (cR, 16, .inl (fun _ => 0))), (pg, .inr (3, [.int 400, .int 0, .int 0, .int 0, .int 0, .int 0])), (ou, .inl (cU, 1, .inr (.inl fo)))] sz) [(ou, .inl (cU, 1, .inr (.inl (vp_updL fo (0 : Int32).toNatClampNeg 0))))] [] t) (va_A [(x, .inr (0, [.ref rt, .ref dr, .int 0, .int 0, .ref bs, .ref df, .ref ch, .ref pg, .int rs])), (rt, .inl (cR, 16, .inl (fun _ => 0))), (pg, .inr (3, [.int 400, .int 0, .int 0, .int 0, .int 0, .int 0])), (ou, .inl (cU, 1, .inr (.inl fo)))] sz)) 0 0 (va_A [(x, .inr (0, [.ref rt, .ref dr, .int 0, .int 0, .ref bs, .ref df, .ref ch, .ref pg, .int rs])), (rt, .inl (cR, 16, .inl (fun _ => 0))), (pg, .inr (3, [.int 400, .int 0, .int 0, .int 0, .int 0, .int 0])), (ou, .inl (cU, 1, .inr (.inl fo)))] sz) := by
  refine va_MetW (hh := [(0, 19, 22, 13)]) (cc := cL_drop) (maxL := 6) (ret := (some .int)) (by decide) rfl ?_
  intro p e s m args below meth c s₁ B hml hv
  obtain ⟨rfl, hv⟩ := hv
  have hx := B.exec
  have hb := B.bytes
  have hr := B.returns
  have hts : ∀ w ∈ aw, w.before _ s = true := fun w h => atoms_spec (ws := (.codeWith yL_drop cL_drop 6 (some .int) [(0, 19, 22, 13)] :: aw)) B.pre w (List.mem_cons_of_mem _ h)
  have hown : s.vm.findClass RL = some m.cls := findClass_of_methodNamed B.named
  have hlocks := B.notSynchronized
  obtain ⟨hsz, hP, hK, hD0⟩ := hv
  subst hsz
  have hD := hD0.self (sz := s.heap.size)
  generalize hAe : va_A [(x, .inr (0, [.ref rt, .ref dr, .int 0, .int 0, .ref bs, .ref df, .ref ch, .ref pg, .int rs])), (rt, .inl (cR, 16, .inl (fun _ => 0))), (pg, .inr (3, [.int 400, .int 0, .int 0, .int 0, .int 0, .int 0])), (ou, .inl (cU, 1, .inr (.inl fo)))] s.heap.size = A at hD ⊢
  have hA : ∀ q : Nat, s.heap.size ≤ q → A q := fun q h => by rw [← hAe]; exact Or.inr h
  obtain ⟨H, hH⟩ : ∃ H, H = s.heap := ⟨_, rfl⟩
  have hS : va_S A s.heap H [] := by rw [hH]; exact va_S.rf
  rw [← hH] at hP ⊢
  have hP : va_P (dC, dI) kCl [(x, .inr (0, [.ref rt, .ref dr, .int 0, .int 0, .ref bs, .ref df, .ref ch, .ref pg, .int rs])), (rt, .inl (cR, 16, .inl (fun _ => 0))), (pg, .inr (3, [.int 400, .int 0, .int 0, .int 0, .int 0, .int 0])), (ou, .inl (cU, 1, .inr (.inl fo)))] H := hP
  have hl := lv_entry ([.ref x, .int dd, .int pp, .int kk, .ref ou]) (n := 6) (Nat.le_of_ble_eq_true rfl)
  rw [lg_entry_eq]
  generalize (lg_sl ([.ref x, .int dd, .int pp, .int kk, .ref ou]) ++ List.replicate (6 - (lg_sl ([.ref x, .int dd, .int pp, .int kk, .ref ou])).length) Slot.unset).toArray = ls at hl ⊢
  have hl : lv_has ls 6 [(0, .ref x), (1, .int dd), (2, .int pp), (3, .int kk), (4, .ref ou)] := hl
  refine lv_aload (pc := 0) hx hb dL_drop_0 (lv_at hl 4 rfl) ?_
  refine lv_iconst (pc := 2) (v := 0) hx hb dL_drop_2 (by decide) ?_
  refine lv_aload_n (pc := 3) hx hb dL_drop_3 rfl (lv_at hl 0 rfl) ?_
  refine lv_iload_n (pc := 4) hx hb dL_drop_4 rfl (lv_at hl 1 rfl) ?_
  refine lv_iload_n (pc := 5) hx hb dL_drop_5 rfl (lv_at hl 2 rfl) ?_
  refine lv_iload_n (pc := 6) hx hb dL_drop_6 rfl (lv_at hl 3 rfl) ?_
  have hPc := hP.sub (ws' := [(x, .inr (0, [.ref rt, .ref dr, .int 0, .int 0, .ref bs, .ref df, .ref ch, .ref pg, .int rs])), (rt, .inl (cR, 16, .inl (fun _ => 0))), (pg, .inr (3, [.int 400, .int 0, .int 0, .int 0, .int 0, .int 0]))]) [0, 1, 2] rfl
  have hDc := hD.sub (ws' := [(x, .inr (0, [.ref rt, .ref dr, .int 0, .int 0, .ref bs, .ref df, .ref ch, .ref pg, .int rs])), (rt, .inl (cR, 16, .inl (fun _ => 0))), (pg, .inr (3, [.int 400, .int 0, .int 0, .int 0, .int 0, .int 0]))]) [0, 1, 2] (by decide) rfl
  have hKc := hK.sub (tys' := [(cR, .int)]) [0] rfl
  have hFc := va_free (wc := [(x, .inr (0, [.ref rt, .ref dr, .int 0, .int 0, .ref bs, .ref df, .ref ch, .ref pg, .int rs])), (rt, .inl (cR, 16, .inl (fun _ => 0))), (pg, .inr (3, [.int 400, .int 0, .int 0, .int 0, .int 0, .int 0]))]) hD hS hA [0, 1, 2] rfl
  refine va_calli (pc := 7) (va_runV (As := [.int dd, .int pp, .int kk]) (rest := [.int 0, .ref ou]) ⟨hx, hb, hml, hown, hts⟩ (v_drop l dC dI H.size x rt dr bs df ch pg rs cR dd pp kk) (cwV 3 hts (gV wd_302 wd_303 wd_304 wd_35 wd_301) rfl rfl rfl (by decide +kernel) ⟨Nat.le_of_ble_eq_true rfl, Nat.le_of_ble_eq_true rfl⟩) ⟨pW_blind, va_recv (q := (RV, TV, 9)) (q0 := 0) (ci := 0) hK hP rfl rfl, pW_pre hPc hKc hDc⟩ rfl rfl hl.1 rfl (lv_room (Nat.le_of_ble_eq_true rfl)) dL_drop_7 ⟨Nat.le_of_ble_eq_true rfl, Nat.le_of_ble_eq_true rfl⟩) hS (fun q _ h => hFc q h) hFc (fun r1 u t H1 locs ht hvm hr2 hB hz1 hk1 hS => ?_)
  obtain ⟨hP1, hK1, hD1⟩ := hB
  rw [ht] at hP1
  have hK1 := va_K.moved hvm.symm hK1
  obtain ⟨hP, hD⟩ := va_join (wr := [(ou, .inl (cU, 1, .inr (.inl fo)))]) (w1 := []) hP hD [0, 1, 2] [3] rfl rfl (by decide) (by decide) hk1 hFc hP1 hD1
  generalize H1 = H at hP hS ⊢
  have hP : va_P (dC, dI) kCl [(ou, .inl (cU, 1, .inr (.inl fo)))] H := hP
  have hD : va_D A [(ou, .inl (cU, 1, .inr (.inl fo)))] := hD
  refine W.widen (k := 0) (n := 0) (Nat.le_of_ble_eq_true rfl) (Nat.le_of_ble_eq_true rfl) ?_
  obtain rfl : r1 = 0 := hr2
  refine lv_if_eq (pc := 10) (tgt := 17) hx hb dL_drop_10 rfl (fun h4 => ?_) (fun h4 => absurd h4 (by decide))
  refine lv_lconst (pc := 17) (v := 0) hx hb dL_drop_17 (by decide) ?_
  refine va_last (D := (dC, dI)) (cl := kCl) (pc := 18) hx hb hK hP hD hS 0 1 rfl rfl (vp_in_lit 0 1 (by decide)) dL_drop_18 (fun H locs hP hD hS => ?_)
  have hP : va_P (dC, dI) kCl [(ou, .inl (cU, 1, .inr (.inl (vp_updL fo (0 : Int32).toNatClampNeg 0))))] H := hP
  have hD : va_D A [(ou, .inl (cU, 1, .inr (.inl (vp_updL fo (0 : Int32).toNatClampNeg 0))))] := hD
  refine lv_goto (pc := 19) (tgt := 26) hx hb dL_drop_19 rfl ?_
  refine lv_iconst (pc := 26) (v := 0) hx hb dL_drop_26 (by decide) ?_
  have hP9 := hP.sub (ws' := [(ou, .inl (cU, 1, .inr (.inl (vp_updL fo (0 : Int32).toNatClampNeg 0))))]) [0] rfl
  have hD9 := hD.sub (ws' := [(ou, .inl (cU, 1, .inr (.inl (vp_updL fo (0 : Int32).toNatClampNeg 0))))]) [0] (by decide) rfl
  have hK9 := hK.sub (tys' := []) [] rfl
  exact W.iret (pc := 27) hx hb hr (fun t ht hW => ⟨⟨_, (), rfl, rfl, by rw [ht]; exact hP9, va_K.moved hW.alike hK9, hD9⟩, hS.F ht⟩) hS.2.2 dL_drop_27
set_option maxHeartbeats 4000000 in
set_option maxRecDepth 100000 in
theorem l_checkIn (l : Launch) (dC : Nat → ClassId) (dI : Nat → Nat → Nat) (sz : Nat) (x : Nat) (rt : Nat) (dr : Nat) (bs : Nat) (df : Nat) (ch : Nat) (pg : Nat) (rs : Int32) (cR : ClassId) (ou : Nat) (cU : ClassId) (fo : Nat → Int64) (dd : Int32) (pp : Int32) : Met l yL_checkIn (.codeWith yL_checkIn cL_checkIn 5 (some .int) [(0, 10, 13, 13)] :: aw) ({ frames := 4, cells := 0, slots := 0, locals := 89 }) (pW (dC, dI) sz [(x, .inr (0, [.ref rt, .ref dr, .int 0, .int 0, .ref bs, .ref df, .ref ch, .ref pg, .int rs])), (rt, .inl (cR, 16, .inl (fun _ => 0))), (pg, .inr (3, [.int 400, .int 0, .int 0, .int 0, .int 0, .int 0])), (ou, .inl (cU, 1, .inr (.inl fo)))] [(cR, .int), (cU, .long)] [.ref x, .int dd, .int pp, .ref ou]) (va_Qi (fun r (_ : Unit) => r = 0) (fun _ t => wW (dC, dI) (va_A [(x, .inr (0, [.ref rt, .ref dr, .int 0, .int 0, .ref bs, .ref df, .ref ch, .ref pg, .int rs])), (rt, .inl (cR, 16, .inl (fun _ => 0))), (pg, .inr (3, [.int 400, .int 0, .int 0, .int 0, .int 0, .int 0])), (ou, .inl (cU, 1, .inr (.inl fo)))] sz) [(ou, .inl (cU, 1, .inr (.inl (vp_updL fo (0 : Int32).toNatClampNeg (-1)))))] [] t) (va_A [(x, .inr (0, [.ref rt, .ref dr, .int 0, .int 0, .ref bs, .ref df, .ref ch, .ref pg, .int rs])), (rt, .inl (cR, 16, .inl (fun _ => 0))), (pg, .inr (3, [.int 400, .int 0, .int 0, .int 0, .int 0, .int 0])), (ou, .inl (cU, 1, .inr (.inl fo)))] sz)) 0 0 (va_A [(x, .inr (0, [.ref rt, .ref dr, .int 0, .int 0, .ref bs, .ref df, .ref ch, .ref pg, .int rs])), (rt, .inl (cR, 16, .inl (fun _ => 0))), (pg, .inr (3, [.int 400, .int 0, .int 0, .int 0, .int 0, .int 0])), (ou, .inl (cU, 1, .inr (.inl fo)))] sz) := by
  refine va_MetW (hh := [(0, 10, 13, 13)]) (cc := cL_checkIn) (maxL := 5) (ret := (some .int)) (by decide) rfl ?_
  intro p e s m args below meth c s₁ B hml hv
  obtain ⟨rfl, hv⟩ := hv
  have hx := B.exec
  have hb := B.bytes
  have hr := B.returns
  have hts : ∀ w ∈ aw, w.before _ s = true := fun w h => atoms_spec (ws := (.codeWith yL_checkIn cL_checkIn 5 (some .int) [(0, 10, 13, 13)] :: aw)) B.pre w (List.mem_cons_of_mem _ h)
  have hown : s.vm.findClass RL = some m.cls := findClass_of_methodNamed B.named
  have hlocks := B.notSynchronized
  obtain ⟨hsz, hP, hK, hD0⟩ := hv
  subst hsz
  have hD := hD0.self (sz := s.heap.size)
  generalize hAe : va_A [(x, .inr (0, [.ref rt, .ref dr, .int 0, .int 0, .ref bs, .ref df, .ref ch, .ref pg, .int rs])), (rt, .inl (cR, 16, .inl (fun _ => 0))), (pg, .inr (3, [.int 400, .int 0, .int 0, .int 0, .int 0, .int 0])), (ou, .inl (cU, 1, .inr (.inl fo)))] s.heap.size = A at hD ⊢
  have hA : ∀ q : Nat, s.heap.size ≤ q → A q := fun q h => by rw [← hAe]; exact Or.inr h
  obtain ⟨H, hH⟩ : ∃ H, H = s.heap := ⟨_, rfl⟩
  have hS : va_S A s.heap H [] := by rw [hH]; exact va_S.rf
  rw [← hH] at hP ⊢
  have hP : va_P (dC, dI) kCl [(x, .inr (0, [.ref rt, .ref dr, .int 0, .int 0, .ref bs, .ref df, .ref ch, .ref pg, .int rs])), (rt, .inl (cR, 16, .inl (fun _ => 0))), (pg, .inr (3, [.int 400, .int 0, .int 0, .int 0, .int 0, .int 0])), (ou, .inl (cU, 1, .inr (.inl fo)))] H := hP
  have hl := lv_entry ([.ref x, .int dd, .int pp, .ref ou]) (n := 5) (Nat.le_of_ble_eq_true rfl)
  rw [lg_entry_eq]
  generalize (lg_sl ([.ref x, .int dd, .int pp, .ref ou]) ++ List.replicate (5 - (lg_sl ([.ref x, .int dd, .int pp, .ref ou])).length) Slot.unset).toArray = ls at hl ⊢
  have hl : lv_has ls 5 [(0, .ref x), (1, .int dd), (2, .int pp), (3, .ref ou)] := hl
  refine lv_aload_n (pc := 0) hx hb dL_checkIn_0 rfl (lv_at hl 3 rfl) ?_
  refine lv_iconst (pc := 1) (v := 0) hx hb dL_checkIn_1 (by decide) ?_
  refine lv_aload_n (pc := 2) hx hb dL_checkIn_2 rfl (lv_at hl 0 rfl) ?_
  refine lv_iload_n (pc := 3) hx hb dL_checkIn_3 rfl (lv_at hl 1 rfl) ?_
  refine lv_iload_n (pc := 4) hx hb dL_checkIn_4 rfl (lv_at hl 2 rfl) ?_
  have hPc := hP.sub (ws' := [(x, .inr (0, [.ref rt, .ref dr, .int 0, .int 0, .ref bs, .ref df, .ref ch, .ref pg, .int rs])), (rt, .inl (cR, 16, .inl (fun _ => 0))), (pg, .inr (3, [.int 400, .int 0, .int 0, .int 0, .int 0, .int 0]))]) [0, 1, 2] rfl
  have hDc := hD.sub (ws' := [(x, .inr (0, [.ref rt, .ref dr, .int 0, .int 0, .ref bs, .ref df, .ref ch, .ref pg, .int rs])), (rt, .inl (cR, 16, .inl (fun _ => 0))), (pg, .inr (3, [.int 400, .int 0, .int 0, .int 0, .int 0, .int 0]))]) [0, 1, 2] (by decide) rfl
  have hKc := hK.sub (tys' := [(cR, .int)]) [0] rfl
  have hFc := va_free (wc := [(x, .inr (0, [.ref rt, .ref dr, .int 0, .int 0, .ref bs, .ref df, .ref ch, .ref pg, .int rs])), (rt, .inl (cR, 16, .inl (fun _ => 0))), (pg, .inr (3, [.int 400, .int 0, .int 0, .int 0, .int 0, .int 0]))]) hD hS hA [0, 1, 2] rfl
  refine va_calli (pc := 5) (va_runV (As := [.int dd, .int pp]) (rest := [.int 0, .ref ou]) ⟨hx, hb, hml, hown, hts⟩ (v_checkIn l dC dI H.size x rt dr bs df ch pg rs cR dd pp) (cwV 2 hts (gV wd_306 wd_307 wd_308 wd_35 wd_305) rfl rfl rfl (by decide +kernel) ⟨Nat.le_of_ble_eq_true rfl, Nat.le_of_ble_eq_true rfl⟩) ⟨pW_blind, va_recv (q := (RV, TV, 9)) (q0 := 0) (ci := 0) hK hP rfl rfl, pW_pre hPc hKc hDc⟩ rfl rfl hl.1 rfl (lv_room (Nat.le_of_ble_eq_true rfl)) dL_checkIn_5 ⟨Nat.le_of_ble_eq_true rfl, Nat.le_of_ble_eq_true rfl⟩) hS (fun q _ h => hFc q h) hFc (fun r1 u t H1 locs ht hvm hr2 hB hz1 hk1 hS => ?_)
  obtain ⟨hP1, hK1, hD1⟩ := hB
  rw [ht] at hP1
  have hK1 := va_K.moved hvm.symm hK1
  obtain ⟨hP, hD⟩ := va_join (wr := [(ou, .inl (cU, 1, .inr (.inl fo)))]) (w1 := []) hP hD [0, 1, 2] [3] rfl rfl (by decide) (by decide) hk1 hFc hP1 hD1
  generalize H1 = H at hP hS ⊢
  have hP : va_P (dC, dI) kCl [(ou, .inl (cU, 1, .inr (.inl fo)))] H := hP
  have hD : va_D A [(ou, .inl (cU, 1, .inr (.inl fo)))] := hD
  refine W.widen (k := 0) (n := 0) (Nat.le_of_ble_eq_true rfl) (Nat.le_of_ble_eq_true rfl) ?_
  obtain rfl : r1 = (-1) := hr2
  refine lv_i2l (pc := 8) (v := (-1)) hx hb dL_checkIn_8 (by decide) ?_
  refine va_last (D := (dC, dI)) (cl := kCl) (pc := 9) hx hb hK hP hD hS 0 1 rfl rfl (vp_in_lit 0 1 (by decide)) dL_checkIn_9 (fun H locs hP hD hS => ?_)
  have hP : va_P (dC, dI) kCl [(ou, .inl (cU, 1, .inr (.inl (vp_updL fo (0 : Int32).toNatClampNeg (-1)))))] H := hP
  have hD : va_D A [(ou, .inl (cU, 1, .inr (.inl (vp_updL fo (0 : Int32).toNatClampNeg (-1)))))] := hD
  refine lv_goto (pc := 10) (tgt := 17) hx hb dL_checkIn_10 rfl ?_
  refine lv_iconst (pc := 17) (v := 0) hx hb dL_checkIn_17 (by decide) ?_
  have hP9 := hP.sub (ws' := [(ou, .inl (cU, 1, .inr (.inl (vp_updL fo (0 : Int32).toNatClampNeg (-1)))))]) [0] rfl
  have hD9 := hD.sub (ws' := [(ou, .inl (cU, 1, .inr (.inl (vp_updL fo (0 : Int32).toNatClampNeg (-1)))))]) [0] (by decide) rfl
  have hK9 := hK.sub (tys' := []) [] rfl
  exact W.iret (pc := 18) hx hb hr (fun t ht hW => ⟨⟨_, (), rfl, rfl, by rw [ht]; exact hP9, va_K.moved hW.alike hK9, hD9⟩, hS.F ht⟩) hS.2.2 dL_checkIn_18
set_option maxHeartbeats 4000000 in
set_option maxRecDepth 100000 in
theorem l_check (l : Launch) (dC : Nat → ClassId) (dI : Nat → Nat → Nat) (sz : Nat) (x : Nat) (rt : Nat) (dr : Nat) (bs : Nat) (df : Nat) (ch : Nat) (pg : Nat) (rs : Int32) (cR : ClassId) (ou : Nat) (cU : ClassId) (fo : Nat → Int64) (dd : Int32) (vv : Int32) (pp : Int32) : Met l yL_check (.codeWith yL_check cL_check 6 (some .int) [(0, 19, 22, 13)] :: aw) ({ frames := 4, cells := 0, slots := 0, locals := 92 }) (pW (dC, dI) sz [(x, .inr (0, [.ref rt, .ref dr, .int 0, .int 0, .ref bs, .ref df, .ref ch, .ref pg, .int rs])), (rt, .inl (cR, 16, .inl (fun _ => 0))), (pg, .inr (3, [.int 400, .int 0, .int 0, .int 0, .int 0, .int 0])), (ou, .inl (cU, 1, .inr (.inl fo)))] [(cR, .int), (cU, .long)] [.ref x, .int dd, .int vv, .int pp, .ref ou]) (va_Qi (fun r (_ : Unit) => r = 0) (fun _ t => wW (dC, dI) (va_A [(x, .inr (0, [.ref rt, .ref dr, .int 0, .int 0, .ref bs, .ref df, .ref ch, .ref pg, .int rs])), (rt, .inl (cR, 16, .inl (fun _ => 0))), (pg, .inr (3, [.int 400, .int 0, .int 0, .int 0, .int 0, .int 0])), (ou, .inl (cU, 1, .inr (.inl fo)))] sz) [(ou, .inl (cU, 1, .inr (.inl (vp_updL fo (0 : Int32).toNatClampNeg 0))))] [] t) (va_A [(x, .inr (0, [.ref rt, .ref dr, .int 0, .int 0, .ref bs, .ref df, .ref ch, .ref pg, .int rs])), (rt, .inl (cR, 16, .inl (fun _ => 0))), (pg, .inr (3, [.int 400, .int 0, .int 0, .int 0, .int 0, .int 0])), (ou, .inl (cU, 1, .inr (.inl fo)))] sz)) 0 0 (va_A [(x, .inr (0, [.ref rt, .ref dr, .int 0, .int 0, .ref bs, .ref df, .ref ch, .ref pg, .int rs])), (rt, .inl (cR, 16, .inl (fun _ => 0))), (pg, .inr (3, [.int 400, .int 0, .int 0, .int 0, .int 0, .int 0])), (ou, .inl (cU, 1, .inr (.inl fo)))] sz) := by
  refine va_MetW (hh := [(0, 19, 22, 13)]) (cc := cL_check) (maxL := 6) (ret := (some .int)) (by decide) rfl ?_
  intro p e s m args below meth c s₁ B hml hv
  obtain ⟨rfl, hv⟩ := hv
  have hx := B.exec
  have hb := B.bytes
  have hr := B.returns
  have hts : ∀ w ∈ aw, w.before _ s = true := fun w h => atoms_spec (ws := (.codeWith yL_check cL_check 6 (some .int) [(0, 19, 22, 13)] :: aw)) B.pre w (List.mem_cons_of_mem _ h)
  have hown : s.vm.findClass RL = some m.cls := findClass_of_methodNamed B.named
  have hlocks := B.notSynchronized
  obtain ⟨hsz, hP, hK, hD0⟩ := hv
  subst hsz
  have hD := hD0.self (sz := s.heap.size)
  generalize hAe : va_A [(x, .inr (0, [.ref rt, .ref dr, .int 0, .int 0, .ref bs, .ref df, .ref ch, .ref pg, .int rs])), (rt, .inl (cR, 16, .inl (fun _ => 0))), (pg, .inr (3, [.int 400, .int 0, .int 0, .int 0, .int 0, .int 0])), (ou, .inl (cU, 1, .inr (.inl fo)))] s.heap.size = A at hD ⊢
  have hA : ∀ q : Nat, s.heap.size ≤ q → A q := fun q h => by rw [← hAe]; exact Or.inr h
  obtain ⟨H, hH⟩ : ∃ H, H = s.heap := ⟨_, rfl⟩
  have hS : va_S A s.heap H [] := by rw [hH]; exact va_S.rf
  rw [← hH] at hP ⊢
  have hP : va_P (dC, dI) kCl [(x, .inr (0, [.ref rt, .ref dr, .int 0, .int 0, .ref bs, .ref df, .ref ch, .ref pg, .int rs])), (rt, .inl (cR, 16, .inl (fun _ => 0))), (pg, .inr (3, [.int 400, .int 0, .int 0, .int 0, .int 0, .int 0])), (ou, .inl (cU, 1, .inr (.inl fo)))] H := hP
  have hl := lv_entry ([.ref x, .int dd, .int vv, .int pp, .ref ou]) (n := 6) (Nat.le_of_ble_eq_true rfl)
  rw [lg_entry_eq]
  generalize (lg_sl ([.ref x, .int dd, .int vv, .int pp, .ref ou]) ++ List.replicate (6 - (lg_sl ([.ref x, .int dd, .int vv, .int pp, .ref ou])).length) Slot.unset).toArray = ls at hl ⊢
  have hl : lv_has ls 6 [(0, .ref x), (1, .int dd), (2, .int vv), (3, .int pp), (4, .ref ou)] := hl
  refine lv_aload (pc := 0) hx hb dL_check_0 (lv_at hl 4 rfl) ?_
  refine lv_iconst (pc := 2) (v := 0) hx hb dL_check_2 (by decide) ?_
  refine lv_aload_n (pc := 3) hx hb dL_check_3 rfl (lv_at hl 0 rfl) ?_
  refine lv_iload_n (pc := 4) hx hb dL_check_4 rfl (lv_at hl 1 rfl) ?_
  refine lv_iload_n (pc := 5) hx hb dL_check_5 rfl (lv_at hl 2 rfl) ?_
  refine lv_iload_n (pc := 6) hx hb dL_check_6 rfl (lv_at hl 3 rfl) ?_
  have hPc := hP.sub (ws' := [(x, .inr (0, [.ref rt, .ref dr, .int 0, .int 0, .ref bs, .ref df, .ref ch, .ref pg, .int rs])), (rt, .inl (cR, 16, .inl (fun _ => 0))), (pg, .inr (3, [.int 400, .int 0, .int 0, .int 0, .int 0, .int 0]))]) [0, 1, 2] rfl
  have hDc := hD.sub (ws' := [(x, .inr (0, [.ref rt, .ref dr, .int 0, .int 0, .ref bs, .ref df, .ref ch, .ref pg, .int rs])), (rt, .inl (cR, 16, .inl (fun _ => 0))), (pg, .inr (3, [.int 400, .int 0, .int 0, .int 0, .int 0, .int 0]))]) [0, 1, 2] (by decide) rfl
  have hKc := hK.sub (tys' := [(cR, .int)]) [0] rfl
  have hFc := va_free (wc := [(x, .inr (0, [.ref rt, .ref dr, .int 0, .int 0, .ref bs, .ref df, .ref ch, .ref pg, .int rs])), (rt, .inl (cR, 16, .inl (fun _ => 0))), (pg, .inr (3, [.int 400, .int 0, .int 0, .int 0, .int 0, .int 0]))]) hD hS hA [0, 1, 2] rfl
  refine va_calli (pc := 7) (va_runV (As := [.int dd, .int vv, .int pp]) (rest := [.int 0, .ref ou]) ⟨hx, hb, hml, hown, hts⟩ (v_check l dC dI H.size x rt dr bs df ch pg rs cR dd vv pp) (cwV 3 hts (gV wd_310 wd_311 wd_312 wd_35 wd_309) rfl rfl rfl (by decide +kernel) ⟨Nat.le_of_ble_eq_true rfl, Nat.le_of_ble_eq_true rfl⟩) ⟨pW_blind, va_recv (q := (RV, TV, 9)) (q0 := 0) (ci := 0) hK hP rfl rfl, pW_pre hPc hKc hDc⟩ rfl rfl hl.1 rfl (lv_room (Nat.le_of_ble_eq_true rfl)) dL_check_7 ⟨Nat.le_of_ble_eq_true rfl, Nat.le_of_ble_eq_true rfl⟩) hS (fun q _ h => hFc q h) hFc (fun r1 u t H1 locs ht hvm hr2 hB hz1 hk1 hS => ?_)
  obtain ⟨hP1, hK1, hD1⟩ := hB
  rw [ht] at hP1
  have hK1 := va_K.moved hvm.symm hK1
  obtain ⟨hP, hD⟩ := va_join (wr := [(ou, .inl (cU, 1, .inr (.inl fo)))]) (w1 := []) hP hD [0, 1, 2] [3] rfl rfl (by decide) (by decide) hk1 hFc hP1 hD1
  generalize H1 = H at hP hS ⊢
  have hP : va_P (dC, dI) kCl [(ou, .inl (cU, 1, .inr (.inl fo)))] H := hP
  have hD : va_D A [(ou, .inl (cU, 1, .inr (.inl fo)))] := hD
  refine W.widen (k := 0) (n := 0) (Nat.le_of_ble_eq_true rfl) (Nat.le_of_ble_eq_true rfl) ?_
  obtain rfl : r1 = 0 := hr2
  refine lv_if_eq (pc := 10) (tgt := 17) hx hb dL_check_10 rfl (fun h4 => ?_) (fun h4 => absurd h4 (by decide))
  refine lv_lconst (pc := 17) (v := 0) hx hb dL_check_17 (by decide) ?_
  refine va_last (D := (dC, dI)) (cl := kCl) (pc := 18) hx hb hK hP hD hS 0 1 rfl rfl (vp_in_lit 0 1 (by decide)) dL_check_18 (fun H locs hP hD hS => ?_)
  have hP : va_P (dC, dI) kCl [(ou, .inl (cU, 1, .inr (.inl (vp_updL fo (0 : Int32).toNatClampNeg 0))))] H := hP
  have hD : va_D A [(ou, .inl (cU, 1, .inr (.inl (vp_updL fo (0 : Int32).toNatClampNeg 0))))] := hD
  refine lv_goto (pc := 19) (tgt := 26) hx hb dL_check_19 rfl ?_
  refine lv_iconst (pc := 26) (v := 0) hx hb dL_check_26 (by decide) ?_
  have hP9 := hP.sub (ws' := [(ou, .inl (cU, 1, .inr (.inl (vp_updL fo (0 : Int32).toNatClampNeg 0))))]) [0] rfl
  have hD9 := hD.sub (ws' := [(ou, .inl (cU, 1, .inr (.inl (vp_updL fo (0 : Int32).toNatClampNeg 0))))]) [0] (by decide) rfl
  have hK9 := hK.sub (tys' := []) [] rfl
  exact W.iret (pc := 27) hx hb hr (fun t ht hW => ⟨⟨_, (), rfl, rfl, by rw [ht]; exact hP9, va_K.moved hW.alike hK9, hD9⟩, hS.F ht⟩) hS.2.2 dL_check_27
set_option maxHeartbeats 4000000 in
set_option maxRecDepth 100000 in
theorem l_release (l : Launch) (dC : Nat → ClassId) (dI : Nat → Nat → Nat) (sz : Nat) (x : Nat) (rt : Nat) (dr : Nat) (bs : Nat) (df : Nat) (ch : Nat) (pg : Nat) (rs : Int32) (cR : ClassId) (ou : Nat) (cU : ClassId) (fo : Nat → Int64) (dd : Int32) (vv : Int32) (pp : Int32) : Met l yL_release (.codeWith yL_release cL_release 6 (some .int) [(0, 19, 22, 13)] :: aw) ({ frames := 4, cells := 0, slots := 0, locals := 92 }) (pW (dC, dI) sz [(x, .inr (0, [.ref rt, .ref dr, .int 0, .int 0, .ref bs, .ref df, .ref ch, .ref pg, .int rs])), (rt, .inl (cR, 16, .inl (fun _ => 0))), (pg, .inr (3, [.int 400, .int 0, .int 0, .int 0, .int 0, .int 0])), (ou, .inl (cU, 1, .inr (.inl fo)))] [(cR, .int), (cU, .long)] [.ref x, .int dd, .int vv, .int pp, .ref ou]) (va_Qi (fun r (_ : Unit) => r = 0) (fun _ t => wW (dC, dI) (va_A [(x, .inr (0, [.ref rt, .ref dr, .int 0, .int 0, .ref bs, .ref df, .ref ch, .ref pg, .int rs])), (rt, .inl (cR, 16, .inl (fun _ => 0))), (pg, .inr (3, [.int 400, .int 0, .int 0, .int 0, .int 0, .int 0])), (ou, .inl (cU, 1, .inr (.inl fo)))] sz) [(ou, .inl (cU, 1, .inr (.inl (vp_updL fo (0 : Int32).toNatClampNeg 0))))] [] t) (va_A [(x, .inr (0, [.ref rt, .ref dr, .int 0, .int 0, .ref bs, .ref df, .ref ch, .ref pg, .int rs])), (rt, .inl (cR, 16, .inl (fun _ => 0))), (pg, .inr (3, [.int 400, .int 0, .int 0, .int 0, .int 0, .int 0])), (ou, .inl (cU, 1, .inr (.inl fo)))] sz)) 0 0 (va_A [(x, .inr (0, [.ref rt, .ref dr, .int 0, .int 0, .ref bs, .ref df, .ref ch, .ref pg, .int rs])), (rt, .inl (cR, 16, .inl (fun _ => 0))), (pg, .inr (3, [.int 400, .int 0, .int 0, .int 0, .int 0, .int 0])), (ou, .inl (cU, 1, .inr (.inl fo)))] sz) := by
  refine va_MetW (hh := [(0, 19, 22, 13)]) (cc := cL_release) (maxL := 6) (ret := (some .int)) (by decide) rfl ?_
  intro p e s m args below meth c s₁ B hml hv
  obtain ⟨rfl, hv⟩ := hv
  have hx := B.exec
  have hb := B.bytes
  have hr := B.returns
  have hts : ∀ w ∈ aw, w.before _ s = true := fun w h => atoms_spec (ws := (.codeWith yL_release cL_release 6 (some .int) [(0, 19, 22, 13)] :: aw)) B.pre w (List.mem_cons_of_mem _ h)
  have hown : s.vm.findClass RL = some m.cls := findClass_of_methodNamed B.named
  have hlocks := B.notSynchronized
  obtain ⟨hsz, hP, hK, hD0⟩ := hv
  subst hsz
  have hD := hD0.self (sz := s.heap.size)
  generalize hAe : va_A [(x, .inr (0, [.ref rt, .ref dr, .int 0, .int 0, .ref bs, .ref df, .ref ch, .ref pg, .int rs])), (rt, .inl (cR, 16, .inl (fun _ => 0))), (pg, .inr (3, [.int 400, .int 0, .int 0, .int 0, .int 0, .int 0])), (ou, .inl (cU, 1, .inr (.inl fo)))] s.heap.size = A at hD ⊢
  have hA : ∀ q : Nat, s.heap.size ≤ q → A q := fun q h => by rw [← hAe]; exact Or.inr h
  obtain ⟨H, hH⟩ : ∃ H, H = s.heap := ⟨_, rfl⟩
  have hS : va_S A s.heap H [] := by rw [hH]; exact va_S.rf
  rw [← hH] at hP ⊢
  have hP : va_P (dC, dI) kCl [(x, .inr (0, [.ref rt, .ref dr, .int 0, .int 0, .ref bs, .ref df, .ref ch, .ref pg, .int rs])), (rt, .inl (cR, 16, .inl (fun _ => 0))), (pg, .inr (3, [.int 400, .int 0, .int 0, .int 0, .int 0, .int 0])), (ou, .inl (cU, 1, .inr (.inl fo)))] H := hP
  have hl := lv_entry ([.ref x, .int dd, .int vv, .int pp, .ref ou]) (n := 6) (Nat.le_of_ble_eq_true rfl)
  rw [lg_entry_eq]
  generalize (lg_sl ([.ref x, .int dd, .int vv, .int pp, .ref ou]) ++ List.replicate (6 - (lg_sl ([.ref x, .int dd, .int vv, .int pp, .ref ou])).length) Slot.unset).toArray = ls at hl ⊢
  have hl : lv_has ls 6 [(0, .ref x), (1, .int dd), (2, .int vv), (3, .int pp), (4, .ref ou)] := hl
  refine lv_aload (pc := 0) hx hb dL_release_0 (lv_at hl 4 rfl) ?_
  refine lv_iconst (pc := 2) (v := 0) hx hb dL_release_2 (by decide) ?_
  refine lv_aload_n (pc := 3) hx hb dL_release_3 rfl (lv_at hl 0 rfl) ?_
  refine lv_iload_n (pc := 4) hx hb dL_release_4 rfl (lv_at hl 1 rfl) ?_
  refine lv_iload_n (pc := 5) hx hb dL_release_5 rfl (lv_at hl 2 rfl) ?_
  refine lv_iload_n (pc := 6) hx hb dL_release_6 rfl (lv_at hl 3 rfl) ?_
  have hPc := hP.sub (ws' := [(x, .inr (0, [.ref rt, .ref dr, .int 0, .int 0, .ref bs, .ref df, .ref ch, .ref pg, .int rs])), (rt, .inl (cR, 16, .inl (fun _ => 0))), (pg, .inr (3, [.int 400, .int 0, .int 0, .int 0, .int 0, .int 0]))]) [0, 1, 2] rfl
  have hDc := hD.sub (ws' := [(x, .inr (0, [.ref rt, .ref dr, .int 0, .int 0, .ref bs, .ref df, .ref ch, .ref pg, .int rs])), (rt, .inl (cR, 16, .inl (fun _ => 0))), (pg, .inr (3, [.int 400, .int 0, .int 0, .int 0, .int 0, .int 0]))]) [0, 1, 2] (by decide) rfl
  have hKc := hK.sub (tys' := [(cR, .int)]) [0] rfl
  have hFc := va_free (wc := [(x, .inr (0, [.ref rt, .ref dr, .int 0, .int 0, .ref bs, .ref df, .ref ch, .ref pg, .int rs])), (rt, .inl (cR, 16, .inl (fun _ => 0))), (pg, .inr (3, [.int 400, .int 0, .int 0, .int 0, .int 0, .int 0]))]) hD hS hA [0, 1, 2] rfl
  refine va_calli (pc := 7) (va_runV (As := [.int dd, .int vv, .int pp]) (rest := [.int 0, .ref ou]) ⟨hx, hb, hml, hown, hts⟩ (v_release l dC dI H.size x rt dr bs df ch pg rs cR dd vv pp) (cwV 3 hts (gV wd_314 wd_315 wd_316 wd_35 wd_313) rfl rfl rfl (by decide +kernel) ⟨Nat.le_of_ble_eq_true rfl, Nat.le_of_ble_eq_true rfl⟩) ⟨pW_blind, va_recv (q := (RV, TV, 9)) (q0 := 0) (ci := 0) hK hP rfl rfl, pW_pre hPc hKc hDc⟩ rfl rfl hl.1 rfl (lv_room (Nat.le_of_ble_eq_true rfl)) dL_release_7 ⟨Nat.le_of_ble_eq_true rfl, Nat.le_of_ble_eq_true rfl⟩) hS (fun q _ h => hFc q h) hFc (fun r1 u t H1 locs ht hvm hr2 hB hz1 hk1 hS => ?_)
  obtain ⟨hP1, hK1, hD1⟩ := hB
  rw [ht] at hP1
  have hK1 := va_K.moved hvm.symm hK1
  obtain ⟨hP, hD⟩ := va_join (wr := [(ou, .inl (cU, 1, .inr (.inl fo)))]) (w1 := []) hP hD [0, 1, 2] [3] rfl rfl (by decide) (by decide) hk1 hFc hP1 hD1
  generalize H1 = H at hP hS ⊢
  have hP : va_P (dC, dI) kCl [(ou, .inl (cU, 1, .inr (.inl fo)))] H := hP
  have hD : va_D A [(ou, .inl (cU, 1, .inr (.inl fo)))] := hD
  refine W.widen (k := 0) (n := 0) (Nat.le_of_ble_eq_true rfl) (Nat.le_of_ble_eq_true rfl) ?_
  obtain rfl : r1 = 0 := hr2
  refine lv_if_eq (pc := 10) (tgt := 17) hx hb dL_release_10 rfl (fun h4 => ?_) (fun h4 => absurd h4 (by decide))
  refine lv_lconst (pc := 17) (v := 0) hx hb dL_release_17 (by decide) ?_
  refine va_last (D := (dC, dI)) (cl := kCl) (pc := 18) hx hb hK hP hD hS 0 1 rfl rfl (vp_in_lit 0 1 (by decide)) dL_release_18 (fun H locs hP hD hS => ?_)
  have hP : va_P (dC, dI) kCl [(ou, .inl (cU, 1, .inr (.inl (vp_updL fo (0 : Int32).toNatClampNeg 0))))] H := hP
  have hD : va_D A [(ou, .inl (cU, 1, .inr (.inl (vp_updL fo (0 : Int32).toNatClampNeg 0))))] := hD
  refine lv_goto (pc := 19) (tgt := 26) hx hb dL_release_19 rfl ?_
  refine lv_iconst (pc := 26) (v := 0) hx hb dL_release_26 (by decide) ?_
  have hP9 := hP.sub (ws' := [(ou, .inl (cU, 1, .inr (.inl (vp_updL fo (0 : Int32).toNatClampNeg 0))))]) [0] rfl
  have hD9 := hD.sub (ws' := [(ou, .inl (cU, 1, .inr (.inl (vp_updL fo (0 : Int32).toNatClampNeg 0))))]) [0] (by decide) rfl
  have hK9 := hK.sub (tys' := []) [] rfl
  exact W.iret (pc := 27) hx hb hr (fun t ht hW => ⟨⟨_, (), rfl, rfl, by rw [ht]; exact hP9, va_K.moved hW.alike hK9, hD9⟩, hS.F ht⟩) hS.2.2 dL_release_27
set_option maxHeartbeats 4000000 in
set_option maxRecDepth 100000 in
theorem l_withdraw (l : Launch) (dC : Nat → ClassId) (dI : Nat → Nat → Nat) (sz : Nat) (x : Nat) (rt : Nat) (dr : Nat) (bs : Nat) (df : Nat) (ch : Nat) (pg : Nat) (rs : Int32) (cR : ClassId) (ou : Nat) (cU : ClassId) (fo : Nat → Int64) (dd : Int32) (vv : Int32) (pp : Int32) : Met l yL_withdraw (.codeWith yL_withdraw cL_withdraw 6 (some .int) [(0, 19, 22, 13)] :: aw) ({ frames := 4, cells := 0, slots := 0, locals := 92 }) (pW (dC, dI) sz [(x, .inr (0, [.ref rt, .ref dr, .int 0, .int 0, .ref bs, .ref df, .ref ch, .ref pg, .int rs])), (rt, .inl (cR, 16, .inl (fun _ => 0))), (pg, .inr (3, [.int 400, .int 0, .int 0, .int 0, .int 0, .int 0])), (ou, .inl (cU, 1, .inr (.inl fo)))] [(cR, .int), (cU, .long)] [.ref x, .int dd, .int vv, .int pp, .ref ou]) (va_Qi (fun r (_ : Unit) => r = 0) (fun _ t => wW (dC, dI) (va_A [(x, .inr (0, [.ref rt, .ref dr, .int 0, .int 0, .ref bs, .ref df, .ref ch, .ref pg, .int rs])), (rt, .inl (cR, 16, .inl (fun _ => 0))), (pg, .inr (3, [.int 400, .int 0, .int 0, .int 0, .int 0, .int 0])), (ou, .inl (cU, 1, .inr (.inl fo)))] sz) [(ou, .inl (cU, 1, .inr (.inl (vp_updL fo (0 : Int32).toNatClampNeg 0))))] [] t) (va_A [(x, .inr (0, [.ref rt, .ref dr, .int 0, .int 0, .ref bs, .ref df, .ref ch, .ref pg, .int rs])), (rt, .inl (cR, 16, .inl (fun _ => 0))), (pg, .inr (3, [.int 400, .int 0, .int 0, .int 0, .int 0, .int 0])), (ou, .inl (cU, 1, .inr (.inl fo)))] sz)) 0 0 (va_A [(x, .inr (0, [.ref rt, .ref dr, .int 0, .int 0, .ref bs, .ref df, .ref ch, .ref pg, .int rs])), (rt, .inl (cR, 16, .inl (fun _ => 0))), (pg, .inr (3, [.int 400, .int 0, .int 0, .int 0, .int 0, .int 0])), (ou, .inl (cU, 1, .inr (.inl fo)))] sz) := by
  refine va_MetW (hh := [(0, 19, 22, 13)]) (cc := cL_withdraw) (maxL := 6) (ret := (some .int)) (by decide) rfl ?_
  intro p e s m args below meth c s₁ B hml hv
  obtain ⟨rfl, hv⟩ := hv
  have hx := B.exec
  have hb := B.bytes
  have hr := B.returns
  have hts : ∀ w ∈ aw, w.before _ s = true := fun w h => atoms_spec (ws := (.codeWith yL_withdraw cL_withdraw 6 (some .int) [(0, 19, 22, 13)] :: aw)) B.pre w (List.mem_cons_of_mem _ h)
  have hown : s.vm.findClass RL = some m.cls := findClass_of_methodNamed B.named
  have hlocks := B.notSynchronized
  obtain ⟨hsz, hP, hK, hD0⟩ := hv
  subst hsz
  have hD := hD0.self (sz := s.heap.size)
  generalize hAe : va_A [(x, .inr (0, [.ref rt, .ref dr, .int 0, .int 0, .ref bs, .ref df, .ref ch, .ref pg, .int rs])), (rt, .inl (cR, 16, .inl (fun _ => 0))), (pg, .inr (3, [.int 400, .int 0, .int 0, .int 0, .int 0, .int 0])), (ou, .inl (cU, 1, .inr (.inl fo)))] s.heap.size = A at hD ⊢
  have hA : ∀ q : Nat, s.heap.size ≤ q → A q := fun q h => by rw [← hAe]; exact Or.inr h
  obtain ⟨H, hH⟩ : ∃ H, H = s.heap := ⟨_, rfl⟩
  have hS : va_S A s.heap H [] := by rw [hH]; exact va_S.rf
  rw [← hH] at hP ⊢
  have hP : va_P (dC, dI) kCl [(x, .inr (0, [.ref rt, .ref dr, .int 0, .int 0, .ref bs, .ref df, .ref ch, .ref pg, .int rs])), (rt, .inl (cR, 16, .inl (fun _ => 0))), (pg, .inr (3, [.int 400, .int 0, .int 0, .int 0, .int 0, .int 0])), (ou, .inl (cU, 1, .inr (.inl fo)))] H := hP
  have hl := lv_entry ([.ref x, .int dd, .int vv, .int pp, .ref ou]) (n := 6) (Nat.le_of_ble_eq_true rfl)
  rw [lg_entry_eq]
  generalize (lg_sl ([.ref x, .int dd, .int vv, .int pp, .ref ou]) ++ List.replicate (6 - (lg_sl ([.ref x, .int dd, .int vv, .int pp, .ref ou])).length) Slot.unset).toArray = ls at hl ⊢
  have hl : lv_has ls 6 [(0, .ref x), (1, .int dd), (2, .int vv), (3, .int pp), (4, .ref ou)] := hl
  refine lv_aload (pc := 0) hx hb dL_withdraw_0 (lv_at hl 4 rfl) ?_
  refine lv_iconst (pc := 2) (v := 0) hx hb dL_withdraw_2 (by decide) ?_
  refine lv_aload_n (pc := 3) hx hb dL_withdraw_3 rfl (lv_at hl 0 rfl) ?_
  refine lv_iload_n (pc := 4) hx hb dL_withdraw_4 rfl (lv_at hl 1 rfl) ?_
  refine lv_iload_n (pc := 5) hx hb dL_withdraw_5 rfl (lv_at hl 2 rfl) ?_
  refine lv_iload_n (pc := 6) hx hb dL_withdraw_6 rfl (lv_at hl 3 rfl) ?_
  have hPc := hP.sub (ws' := [(x, .inr (0, [.ref rt, .ref dr, .int 0, .int 0, .ref bs, .ref df, .ref ch, .ref pg, .int rs])), (rt, .inl (cR, 16, .inl (fun _ => 0))), (pg, .inr (3, [.int 400, .int 0, .int 0, .int 0, .int 0, .int 0]))]) [0, 1, 2] rfl
  have hDc := hD.sub (ws' := [(x, .inr (0, [.ref rt, .ref dr, .int 0, .int 0, .ref bs, .ref df, .ref ch, .ref pg, .int rs])), (rt, .inl (cR, 16, .inl (fun _ => 0))), (pg, .inr (3, [.int 400, .int 0, .int 0, .int 0, .int 0, .int 0]))]) [0, 1, 2] (by decide) rfl
  have hKc := hK.sub (tys' := [(cR, .int)]) [0] rfl
  have hFc := va_free (wc := [(x, .inr (0, [.ref rt, .ref dr, .int 0, .int 0, .ref bs, .ref df, .ref ch, .ref pg, .int rs])), (rt, .inl (cR, 16, .inl (fun _ => 0))), (pg, .inr (3, [.int 400, .int 0, .int 0, .int 0, .int 0, .int 0]))]) hD hS hA [0, 1, 2] rfl
  refine va_calli (pc := 7) (va_runV (As := [.int dd, .int vv, .int pp]) (rest := [.int 0, .ref ou]) ⟨hx, hb, hml, hown, hts⟩ (v_withdraw l dC dI H.size x rt dr bs df ch pg rs cR dd vv pp) (cwV 3 hts (gV wd_318 wd_319 wd_320 wd_35 wd_317) rfl rfl rfl (by decide +kernel) ⟨Nat.le_of_ble_eq_true rfl, Nat.le_of_ble_eq_true rfl⟩) ⟨pW_blind, va_recv (q := (RV, TV, 9)) (q0 := 0) (ci := 0) hK hP rfl rfl, pW_pre hPc hKc hDc⟩ rfl rfl hl.1 rfl (lv_room (Nat.le_of_ble_eq_true rfl)) dL_withdraw_7 ⟨Nat.le_of_ble_eq_true rfl, Nat.le_of_ble_eq_true rfl⟩) hS (fun q _ h => hFc q h) hFc (fun r1 u t H1 locs ht hvm hr2 hB hz1 hk1 hS => ?_)
  obtain ⟨hP1, hK1, hD1⟩ := hB
  rw [ht] at hP1
  have hK1 := va_K.moved hvm.symm hK1
  obtain ⟨hP, hD⟩ := va_join (wr := [(ou, .inl (cU, 1, .inr (.inl fo)))]) (w1 := []) hP hD [0, 1, 2] [3] rfl rfl (by decide) (by decide) hk1 hFc hP1 hD1
  generalize H1 = H at hP hS ⊢
  have hP : va_P (dC, dI) kCl [(ou, .inl (cU, 1, .inr (.inl fo)))] H := hP
  have hD : va_D A [(ou, .inl (cU, 1, .inr (.inl fo)))] := hD
  refine W.widen (k := 0) (n := 0) (Nat.le_of_ble_eq_true rfl) (Nat.le_of_ble_eq_true rfl) ?_
  obtain rfl : r1 = 0 := hr2
  refine lv_if_eq (pc := 10) (tgt := 17) hx hb dL_withdraw_10 rfl (fun h4 => ?_) (fun h4 => absurd h4 (by decide))
  refine lv_lconst (pc := 17) (v := 0) hx hb dL_withdraw_17 (by decide) ?_
  refine va_last (D := (dC, dI)) (cl := kCl) (pc := 18) hx hb hK hP hD hS 0 1 rfl rfl (vp_in_lit 0 1 (by decide)) dL_withdraw_18 (fun H locs hP hD hS => ?_)
  have hP : va_P (dC, dI) kCl [(ou, .inl (cU, 1, .inr (.inl (vp_updL fo (0 : Int32).toNatClampNeg 0))))] H := hP
  have hD : va_D A [(ou, .inl (cU, 1, .inr (.inl (vp_updL fo (0 : Int32).toNatClampNeg 0))))] := hD
  refine lv_goto (pc := 19) (tgt := 26) hx hb dL_withdraw_19 rfl ?_
  refine lv_iconst (pc := 26) (v := 0) hx hb dL_withdraw_26 (by decide) ?_
  have hP9 := hP.sub (ws' := [(ou, .inl (cU, 1, .inr (.inl (vp_updL fo (0 : Int32).toNatClampNeg 0))))]) [0] rfl
  have hD9 := hD.sub (ws' := [(ou, .inl (cU, 1, .inr (.inl (vp_updL fo (0 : Int32).toNatClampNeg 0))))]) [0] (by decide) rfl
  have hK9 := hK.sub (tys' := []) [] rfl
  exact W.iret (pc := 27) hx hb hr (fun t ht hW => ⟨⟨_, (), rfl, rfl, by rw [ht]; exact hP9, va_K.moved hW.alike hK9, hD9⟩, hS.F ht⟩) hS.2.2 dL_withdraw_27
set_option maxHeartbeats 4000000 in
set_option maxRecDepth 100000 in
theorem l_person (l : Launch) (dC : Nat → ClassId) (dI : Nat → Nat → Nat) (sz : Nat) (x : Nat) (rt : Nat) (dr : Nat) (bs : Nat) (df : Nat) (ch : Nat) (pg : Nat) (rs : Int32) (cR : ClassId) (ou : Nat) (cU : ClassId) (fo : Nat → Int64) (pp : Int32) (ri : Int32) : Met l yL_person (.codeWith yL_person cL_person 5 (some .int) [(0, 17, 20, 13)] :: aw) ({ frames := 3, cells := 0, slots := 0, locals := 66 }) (pW (dC, dI) sz [(x, .inr (0, [.ref rt, .ref dr, .int 0, .int 0, .ref bs, .ref df, .ref ch, .ref pg, .int rs])), (rt, .inl (cR, 16, .inl (fun _ => 0))), (pg, .inr (3, [.int 400, .int 0, .int 0, .int 0, .int 0, .int 0])), (ou, .inl (cU, 1, .inr (.inl fo)))] [(cR, .int), (cU, .long)] [.ref x, .int pp, .int ri, .ref ou]) (va_Qi (fun r (u9 : Int64) => (r = 0 ∧ u9 = 1 ∧ (¬ pp < 0 ∧ ¬ (16 : Int32) ≤ pp ∧ ¬ ri < 0 ∧ ¬ (7 : Int32) < ri)) ∨ (r = 0 ∧ u9 = 0 ∧ (pp < 0 ∨ (16 : Int32) ≤ pp ∨ ri < 0 ∨ (7 : Int32) < ri))) (fun u9 t => wW (dC, dI) (va_A [(x, .inr (0, [.ref rt, .ref dr, .int 0, .int 0, .ref bs, .ref df, .ref ch, .ref pg, .int rs])), (rt, .inl (cR, 16, .inl (fun _ => 0))), (pg, .inr (3, [.int 400, .int 0, .int 0, .int 0, .int 0, .int 0])), (ou, .inl (cU, 1, .inr (.inl fo)))] sz) [(ou, .inl (cU, 1, .inr (.inl (vp_updL fo (0 : Int32).toNatClampNeg u9))))] [] t) (va_A [(x, .inr (0, [.ref rt, .ref dr, .int 0, .int 0, .ref bs, .ref df, .ref ch, .ref pg, .int rs])), (rt, .inl (cR, 16, .inl (fun _ => 0))), (pg, .inr (3, [.int 400, .int 0, .int 0, .int 0, .int 0, .int 0])), (ou, .inl (cU, 1, .inr (.inl fo)))] sz)) 0 0 (va_A [(x, .inr (0, [.ref rt, .ref dr, .int 0, .int 0, .ref bs, .ref df, .ref ch, .ref pg, .int rs])), (rt, .inl (cR, 16, .inl (fun _ => 0))), (pg, .inr (3, [.int 400, .int 0, .int 0, .int 0, .int 0, .int 0])), (ou, .inl (cU, 1, .inr (.inl fo)))] sz) := by
  refine va_MetW (hh := [(0, 17, 20, 13)]) (cc := cL_person) (maxL := 5) (ret := (some .int)) (by decide) rfl ?_
  intro p e s m args below meth c s₁ B hml hv
  obtain ⟨rfl, hv⟩ := hv
  have hx := B.exec
  have hb := B.bytes
  have hr := B.returns
  have hts : ∀ w ∈ aw, w.before _ s = true := fun w h => atoms_spec (ws := (.codeWith yL_person cL_person 5 (some .int) [(0, 17, 20, 13)] :: aw)) B.pre w (List.mem_cons_of_mem _ h)
  have hown : s.vm.findClass RL = some m.cls := findClass_of_methodNamed B.named
  have hlocks := B.notSynchronized
  obtain ⟨hsz, hP, hK, hD0⟩ := hv
  subst hsz
  have hD := hD0.self (sz := s.heap.size)
  generalize hAe : va_A [(x, .inr (0, [.ref rt, .ref dr, .int 0, .int 0, .ref bs, .ref df, .ref ch, .ref pg, .int rs])), (rt, .inl (cR, 16, .inl (fun _ => 0))), (pg, .inr (3, [.int 400, .int 0, .int 0, .int 0, .int 0, .int 0])), (ou, .inl (cU, 1, .inr (.inl fo)))] s.heap.size = A at hD ⊢
  have hA : ∀ q : Nat, s.heap.size ≤ q → A q := fun q h => by rw [← hAe]; exact Or.inr h
  obtain ⟨H, hH⟩ : ∃ H, H = s.heap := ⟨_, rfl⟩
  have hS : va_S A s.heap H [] := by rw [hH]; exact va_S.rf
  rw [← hH] at hP ⊢
  have hP : va_P (dC, dI) kCl [(x, .inr (0, [.ref rt, .ref dr, .int 0, .int 0, .ref bs, .ref df, .ref ch, .ref pg, .int rs])), (rt, .inl (cR, 16, .inl (fun _ => 0))), (pg, .inr (3, [.int 400, .int 0, .int 0, .int 0, .int 0, .int 0])), (ou, .inl (cU, 1, .inr (.inl fo)))] H := hP
  have hl := lv_entry ([.ref x, .int pp, .int ri, .ref ou]) (n := 5) (Nat.le_of_ble_eq_true rfl)
  rw [lg_entry_eq]
  generalize (lg_sl ([.ref x, .int pp, .int ri, .ref ou]) ++ List.replicate (5 - (lg_sl ([.ref x, .int pp, .int ri, .ref ou])).length) Slot.unset).toArray = ls at hl ⊢
  have hl : lv_has ls 5 [(0, .ref x), (1, .int pp), (2, .int ri), (3, .ref ou)] := hl
  refine lv_aload_n (pc := 0) hx hb dL_person_0 rfl (lv_at hl 3 rfl) ?_
  refine lv_iconst (pc := 1) (v := 0) hx hb dL_person_1 (by decide) ?_
  refine lv_aload_n (pc := 2) hx hb dL_person_2 rfl (lv_at hl 0 rfl) ?_
  refine lv_iload_n (pc := 3) hx hb dL_person_3 rfl (lv_at hl 1 rfl) ?_
  refine lv_iload_n (pc := 4) hx hb dL_person_4 rfl (lv_at hl 2 rfl) ?_
  have hPc := hP.sub (ws' := [(x, .inr (0, [.ref rt, .ref dr, .int 0, .int 0, .ref bs, .ref df, .ref ch, .ref pg, .int rs])), (rt, .inl (cR, 16, .inl (fun _ => 0))), (pg, .inr (3, [.int 400, .int 0, .int 0, .int 0, .int 0, .int 0]))]) [0, 1, 2] rfl
  have hDc := hD.sub (ws' := [(x, .inr (0, [.ref rt, .ref dr, .int 0, .int 0, .ref bs, .ref df, .ref ch, .ref pg, .int rs])), (rt, .inl (cR, 16, .inl (fun _ => 0))), (pg, .inr (3, [.int 400, .int 0, .int 0, .int 0, .int 0, .int 0]))]) [0, 1, 2] (by decide) rfl
  have hKc := hK.sub (tys' := [(cR, .int)]) [0] rfl
  have hFc := va_free (wc := [(x, .inr (0, [.ref rt, .ref dr, .int 0, .int 0, .ref bs, .ref df, .ref ch, .ref pg, .int rs])), (rt, .inl (cR, 16, .inl (fun _ => 0))), (pg, .inr (3, [.int 400, .int 0, .int 0, .int 0, .int 0, .int 0]))]) hD hS hA [0, 1, 2] rfl
  refine va_calli (pc := 5) (va_runV (As := [.int pp, .int ri]) (rest := [.int 0, .ref ou]) ⟨hx, hb, hml, hown, hts⟩ (v_person l dC dI H.size x rt dr bs df ch pg rs cR pp ri) (cwV 2 hts (gV wd_322 wd_323 wd_324 wd_35 wd_321) rfl rfl rfl (by decide +kernel) ⟨Nat.le_of_ble_eq_true rfl, Nat.le_of_ble_eq_true rfl⟩) ⟨pW_blind, va_recv (q := (RV, TV, 9)) (q0 := 0) (ci := 0) hK hP rfl rfl, pW_pre hPc hKc hDc⟩ rfl rfl hl.1 rfl (lv_room (Nat.le_of_ble_eq_true rfl)) dL_person_5 ⟨Nat.le_of_ble_eq_true rfl, Nat.le_of_ble_eq_true rfl⟩) hS (fun q _ h => hFc q h) hFc (fun r1 u t H1 locs ht hvm hr2 hB hz1 hk1 hS => ?_)
  obtain ⟨hP1, hK1, hD1⟩ := hB
  rw [ht] at hP1
  have hK1 := va_K.moved hvm.symm hK1
  obtain ⟨hP, hD⟩ := va_join (wr := [(ou, .inl (cU, 1, .inr (.inl fo)))]) (w1 := []) hP hD [0, 1, 2] [3] rfl rfl (by decide) (by decide) hk1 hFc hP1 hD1
  generalize H1 = H at hP hS ⊢
  have hP : va_P (dC, dI) kCl [(ou, .inl (cU, 1, .inr (.inl fo)))] H := hP
  have hD : va_D A [(ou, .inl (cU, 1, .inr (.inl fo)))] := hD
  refine W.widen (k := 0) (n := 0) (Nat.le_of_ble_eq_true rfl) (Nat.le_of_ble_eq_true rfl) ?_
  obtain ⟨rfl, h4⟩ | ⟨rfl, h4⟩ : (r1 = 1 ∧ (¬ pp < 0 ∧ ¬ (16 : Int32) ≤ pp ∧ ¬ ri < 0 ∧ ¬ (7 : Int32) < ri)) ∨ (r1 = 0 ∧ (pp < 0 ∨ (16 : Int32) ≤ pp ∨ ri < 0 ∨ (7 : Int32) < ri)) := hr2
  · refine lv_if_eq (pc := 8) (tgt := 15) hx hb dL_person_8 rfl (fun h5 => absurd h5 (by decide)) (fun h5 => ?_)
    refine lv_lconst (pc := 11) (v := 1) hx hb dL_person_11 (by decide) ?_
    refine lv_goto (pc := 12) (tgt := 16) hx hb dL_person_12 rfl ?_
    refine va_last (D := (dC, dI)) (cl := kCl) (pc := 16) hx hb hK hP hD hS 0 1 rfl rfl (vp_in_lit 0 1 (by decide)) dL_person_16 (fun H locs hP hD hS => ?_)
    have hP : va_P (dC, dI) kCl [(ou, .inl (cU, 1, .inr (.inl (vp_updL fo (0 : Int32).toNatClampNeg 1))))] H := hP
    have hD : va_D A [(ou, .inl (cU, 1, .inr (.inl (vp_updL fo (0 : Int32).toNatClampNeg 1))))] := hD
    refine lv_goto (pc := 17) (tgt := 24) hx hb dL_person_17 rfl ?_
    refine lv_iconst (pc := 24) (v := 0) hx hb dL_person_24 (by decide) ?_
    have hP9 := hP.sub (ws' := [(ou, .inl (cU, 1, .inr (.inl (vp_updL fo (0 : Int32).toNatClampNeg 1))))]) [0] rfl
    have hD9 := hD.sub (ws' := [(ou, .inl (cU, 1, .inr (.inl (vp_updL fo (0 : Int32).toNatClampNeg 1))))]) [0] (by decide) rfl
    have hK9 := hK.sub (tys' := []) [] rfl
    exact W.iret (pc := 25) hx hb hr (fun t ht hW => ⟨⟨_, 1, rfl, (Or.inl ⟨rfl, rfl, h4⟩), by rw [ht]; exact hP9, va_K.moved hW.alike hK9, hD9⟩, hS.F ht⟩) hS.2.2 dL_person_25
  · refine lv_if_eq (pc := 8) (tgt := 15) hx hb dL_person_8 rfl (fun h6 => ?_) (fun h6 => absurd h6 (by decide))
    refine lv_lconst (pc := 15) (v := 0) hx hb dL_person_15 (by decide) ?_
    refine va_last (D := (dC, dI)) (cl := kCl) (pc := 16) hx hb hK hP hD hS 0 1 rfl rfl (vp_in_lit 0 1 (by decide)) dL_person_16 (fun H locs hP hD hS => ?_)
    have hP : va_P (dC, dI) kCl [(ou, .inl (cU, 1, .inr (.inl (vp_updL fo (0 : Int32).toNatClampNeg 0))))] H := hP
    have hD : va_D A [(ou, .inl (cU, 1, .inr (.inl (vp_updL fo (0 : Int32).toNatClampNeg 0))))] := hD
    refine lv_goto (pc := 17) (tgt := 24) hx hb dL_person_17 rfl ?_
    refine lv_iconst (pc := 24) (v := 0) hx hb dL_person_24 (by decide) ?_
    have hP9 := hP.sub (ws' := [(ou, .inl (cU, 1, .inr (.inl (vp_updL fo (0 : Int32).toNatClampNeg 0))))]) [0] rfl
    have hD9 := hD.sub (ws' := [(ou, .inl (cU, 1, .inr (.inl (vp_updL fo (0 : Int32).toNatClampNeg 0))))]) [0] (by decide) rfl
    have hK9 := hK.sub (tys' := []) [] rfl
    exact W.iret (pc := 25) hx hb hr (fun t ht hW => ⟨⟨_, 0, rfl, (Or.inr ⟨rfl, rfl, h4⟩), by rw [ht]; exact hP9, va_K.moved hW.alike hK9, hD9⟩, hS.F ht⟩) hS.2.2 dL_person_25
set_option maxHeartbeats 4000000 in
set_option maxRecDepth 100000 in
theorem l_baseline (l : Launch) (dC : Nat → ClassId) (dI : Nat → Nat → Nat) (sz : Nat) (x : Nat) (rt : Nat) (dr : Nat) (bs : Nat) (df : Nat) (ch : Nat) (pg : Nat) (rs : Int32) (cB : ClassId) (dv : Nat) (do9 : Nat) (cF : ClassId) (fv : Nat → Int32) (ou : Nat) (cU : ClassId) (fo : Nat → Int64) (nn : Int32) (dd : Int32) : Met l yL_baseline (.codeWith yL_baseline cL_baseline 5 (some .int) [(0, 10, 13, 13)] :: aw) ({ frames := 4, cells := 0, slots := 0, locals := 92 }) (pW (dC, dI) sz [(x, .inr (0, [.ref rt, .ref dr, .int 0, .int 0, .ref bs, .ref df, .ref ch, .ref pg, .int rs])), (pg, .inr (3, [.int 400, .int 0, .int 0, .int 0, .int 0, .int 0])), (bs, .inl (cB, 10, .inr (.inr (.inr (.inr (fun _ => none)))))), (df, .inr (1, [.ref dv, .ref do9, .int 0])), (dv, .inl (cF, 24, .inl fv)), (ou, .inl (cU, 1, .inr (.inl fo)))] [(cB, .object "DrawingVault$Baseline"), (cF, .int), (cU, .long)] [.ref x, .int nn, .int dd, .ref ou]) (va_Qi (fun r (_ : Unit) => r = 0) (fun _ t => wW (dC, dI) (va_A [(x, .inr (0, [.ref rt, .ref dr, .int 0, .int 0, .ref bs, .ref df, .ref ch, .ref pg, .int rs])), (pg, .inr (3, [.int 400, .int 0, .int 0, .int 0, .int 0, .int 0])), (bs, .inl (cB, 10, .inr (.inr (.inr (.inr (fun _ => none)))))), (df, .inr (1, [.ref dv, .ref do9, .int 0])), (dv, .inl (cF, 24, .inl fv)), (ou, .inl (cU, 1, .inr (.inl fo)))] sz) [(ou, .inl (cU, 1, .inr (.inl (vp_updL fo (0 : Int32).toNatClampNeg (-1)))))] [] t) (va_A [(x, .inr (0, [.ref rt, .ref dr, .int 0, .int 0, .ref bs, .ref df, .ref ch, .ref pg, .int rs])), (pg, .inr (3, [.int 400, .int 0, .int 0, .int 0, .int 0, .int 0])), (bs, .inl (cB, 10, .inr (.inr (.inr (.inr (fun _ => none)))))), (df, .inr (1, [.ref dv, .ref do9, .int 0])), (dv, .inl (cF, 24, .inl fv)), (ou, .inl (cU, 1, .inr (.inl fo)))] sz)) 0 0 (va_A [(x, .inr (0, [.ref rt, .ref dr, .int 0, .int 0, .ref bs, .ref df, .ref ch, .ref pg, .int rs])), (pg, .inr (3, [.int 400, .int 0, .int 0, .int 0, .int 0, .int 0])), (bs, .inl (cB, 10, .inr (.inr (.inr (.inr (fun _ => none)))))), (df, .inr (1, [.ref dv, .ref do9, .int 0])), (dv, .inl (cF, 24, .inl fv)), (ou, .inl (cU, 1, .inr (.inl fo)))] sz) := by
  refine va_MetW (hh := [(0, 10, 13, 13)]) (cc := cL_baseline) (maxL := 5) (ret := (some .int)) (by decide) rfl ?_
  intro p e s m args below meth c s₁ B hml hv
  obtain ⟨rfl, hv⟩ := hv
  have hx := B.exec
  have hb := B.bytes
  have hr := B.returns
  have hts : ∀ w ∈ aw, w.before _ s = true := fun w h => atoms_spec (ws := (.codeWith yL_baseline cL_baseline 5 (some .int) [(0, 10, 13, 13)] :: aw)) B.pre w (List.mem_cons_of_mem _ h)
  have hown : s.vm.findClass RL = some m.cls := findClass_of_methodNamed B.named
  have hlocks := B.notSynchronized
  obtain ⟨hsz, hP, hK, hD0⟩ := hv
  subst hsz
  have hD := hD0.self (sz := s.heap.size)
  generalize hAe : va_A [(x, .inr (0, [.ref rt, .ref dr, .int 0, .int 0, .ref bs, .ref df, .ref ch, .ref pg, .int rs])), (pg, .inr (3, [.int 400, .int 0, .int 0, .int 0, .int 0, .int 0])), (bs, .inl (cB, 10, .inr (.inr (.inr (.inr (fun _ => none)))))), (df, .inr (1, [.ref dv, .ref do9, .int 0])), (dv, .inl (cF, 24, .inl fv)), (ou, .inl (cU, 1, .inr (.inl fo)))] s.heap.size = A at hD ⊢
  have hA : ∀ q : Nat, s.heap.size ≤ q → A q := fun q h => by rw [← hAe]; exact Or.inr h
  obtain ⟨H, hH⟩ : ∃ H, H = s.heap := ⟨_, rfl⟩
  have hS : va_S A s.heap H [] := by rw [hH]; exact va_S.rf
  rw [← hH] at hP ⊢
  have hP : va_P (dC, dI) kCl [(x, .inr (0, [.ref rt, .ref dr, .int 0, .int 0, .ref bs, .ref df, .ref ch, .ref pg, .int rs])), (pg, .inr (3, [.int 400, .int 0, .int 0, .int 0, .int 0, .int 0])), (bs, .inl (cB, 10, .inr (.inr (.inr (.inr (fun _ => none)))))), (df, .inr (1, [.ref dv, .ref do9, .int 0])), (dv, .inl (cF, 24, .inl fv)), (ou, .inl (cU, 1, .inr (.inl fo)))] H := hP
  have hl := lv_entry ([.ref x, .int nn, .int dd, .ref ou]) (n := 5) (Nat.le_of_ble_eq_true rfl)
  rw [lg_entry_eq]
  generalize (lg_sl ([.ref x, .int nn, .int dd, .ref ou]) ++ List.replicate (5 - (lg_sl ([.ref x, .int nn, .int dd, .ref ou])).length) Slot.unset).toArray = ls at hl ⊢
  have hl : lv_has ls 5 [(0, .ref x), (1, .int nn), (2, .int dd), (3, .ref ou)] := hl
  refine lv_aload_n (pc := 0) hx hb dL_baseline_0 rfl (lv_at hl 3 rfl) ?_
  refine lv_iconst (pc := 1) (v := 0) hx hb dL_baseline_1 (by decide) ?_
  refine lv_aload_n (pc := 2) hx hb dL_baseline_2 rfl (lv_at hl 0 rfl) ?_
  refine lv_iload_n (pc := 3) hx hb dL_baseline_3 rfl (lv_at hl 1 rfl) ?_
  refine lv_iload_n (pc := 4) hx hb dL_baseline_4 rfl (lv_at hl 2 rfl) ?_
  have hPc := hP.sub (ws' := [(x, .inr (0, [.ref rt, .ref dr, .int 0, .int 0, .ref bs, .ref df, .ref ch, .ref pg, .int rs])), (pg, .inr (3, [.int 400, .int 0, .int 0, .int 0, .int 0, .int 0])), (bs, .inl (cB, 10, .inr (.inr (.inr (.inr (fun _ => none)))))), (df, .inr (1, [.ref dv, .ref do9, .int 0])), (dv, .inl (cF, 24, .inl fv))]) [0, 1, 2, 3, 4] rfl
  have hDc := hD.sub (ws' := [(x, .inr (0, [.ref rt, .ref dr, .int 0, .int 0, .ref bs, .ref df, .ref ch, .ref pg, .int rs])), (pg, .inr (3, [.int 400, .int 0, .int 0, .int 0, .int 0, .int 0])), (bs, .inl (cB, 10, .inr (.inr (.inr (.inr (fun _ => none)))))), (df, .inr (1, [.ref dv, .ref do9, .int 0])), (dv, .inl (cF, 24, .inl fv))]) [0, 1, 2, 3, 4] (by decide) rfl
  have hKc := hK.sub (tys' := [(cB, .object "DrawingVault$Baseline"), (cF, .int)]) [0, 1] rfl
  have hFc := va_free (wc := [(x, .inr (0, [.ref rt, .ref dr, .int 0, .int 0, .ref bs, .ref df, .ref ch, .ref pg, .int rs])), (pg, .inr (3, [.int 400, .int 0, .int 0, .int 0, .int 0, .int 0])), (bs, .inl (cB, 10, .inr (.inr (.inr (.inr (fun _ => none)))))), (df, .inr (1, [.ref dv, .ref do9, .int 0])), (dv, .inl (cF, 24, .inl fv))]) hD hS hA [0, 1, 2, 3, 4] rfl
  refine va_calli (pc := 5) (va_runV (As := [.int nn, .int dd]) (rest := [.int 0, .ref ou]) ⟨hx, hb, hml, hown, hts⟩ (v_baseline l dC dI H.size x rt dr bs df ch pg rs cB dv do9 cF fv nn dd) (cwV 2 hts (gV wd_326 wd_327 wd_328 wd_35 wd_325) rfl rfl rfl (by decide +kernel) ⟨Nat.le_of_ble_eq_true rfl, Nat.le_of_ble_eq_true rfl⟩) ⟨pW_blind, va_recv (q := (RV, TV, 9)) (q0 := 0) (ci := 0) hK hP rfl rfl, pW_pre hPc hKc hDc⟩ rfl rfl hl.1 rfl (lv_room (Nat.le_of_ble_eq_true rfl)) dL_baseline_5 ⟨Nat.le_of_ble_eq_true rfl, Nat.le_of_ble_eq_true rfl⟩) hS (fun q _ h => hFc q h) hFc (fun r1 u t H1 locs ht hvm hr2 hB hz1 hk1 hS => ?_)
  obtain ⟨hP1, hK1, hD1⟩ := hB
  rw [ht] at hP1
  have hK1 := va_K.moved hvm.symm hK1
  obtain ⟨hP, hD⟩ := va_join (wr := [(ou, .inl (cU, 1, .inr (.inl fo)))]) (w1 := []) hP hD [0, 1, 2, 3, 4] [5] rfl rfl (by decide) (by decide) hk1 hFc hP1 hD1
  generalize H1 = H at hP hS ⊢
  have hP : va_P (dC, dI) kCl [(ou, .inl (cU, 1, .inr (.inl fo)))] H := hP
  have hD : va_D A [(ou, .inl (cU, 1, .inr (.inl fo)))] := hD
  refine W.widen (k := 0) (n := 0) (Nat.le_of_ble_eq_true rfl) (Nat.le_of_ble_eq_true rfl) ?_
  obtain rfl : r1 = (-1) := hr2
  refine lv_i2l (pc := 8) (v := (-1)) hx hb dL_baseline_8 (by decide) ?_
  refine va_last (D := (dC, dI)) (cl := kCl) (pc := 9) hx hb hK hP hD hS 0 2 rfl rfl (vp_in_lit 0 1 (by decide)) dL_baseline_9 (fun H locs hP hD hS => ?_)
  have hP : va_P (dC, dI) kCl [(ou, .inl (cU, 1, .inr (.inl (vp_updL fo (0 : Int32).toNatClampNeg (-1)))))] H := hP
  have hD : va_D A [(ou, .inl (cU, 1, .inr (.inl (vp_updL fo (0 : Int32).toNatClampNeg (-1)))))] := hD
  refine lv_goto (pc := 10) (tgt := 17) hx hb dL_baseline_10 rfl ?_
  refine lv_iconst (pc := 17) (v := 0) hx hb dL_baseline_17 (by decide) ?_
  have hP9 := hP.sub (ws' := [(ou, .inl (cU, 1, .inr (.inl (vp_updL fo (0 : Int32).toNatClampNeg (-1)))))]) [0] rfl
  have hD9 := hD.sub (ws' := [(ou, .inl (cU, 1, .inr (.inl (vp_updL fo (0 : Int32).toNatClampNeg (-1)))))]) [0] (by decide) rfl
  have hK9 := hK.sub (tys' := []) [] rfl
  exact W.iret (pc := 18) hx hb hr (fun t ht hW => ⟨⟨_, (), rfl, rfl, by rw [ht]; exact hP9, va_K.moved hW.alike hK9, hD9⟩, hS.F ht⟩) hS.2.2 dL_baseline_18
