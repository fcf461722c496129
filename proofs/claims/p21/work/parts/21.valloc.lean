abbrev cD_addRevision : ByteArray := prog_5_method_6_code
abbrev yD_addRevision : MethodName := ⟨"DrawingVault$Drawing", "addRevision", "(I)V"⟩
theorem dD_addRevision_0 : decode cD_addRevision 0 = .ok (.new 9, 3) := by decide +kernel
theorem dD_addRevision_3 : decode cD_addRevision 3 = .ok (.dup, 1) := by decide +kernel
theorem dD_addRevision_4 : decode cD_addRevision 4 = .ok (.iload_n 1, 1) := by decide +kernel
theorem dD_addRevision_5 : decode cD_addRevision 5 = .ok (.invokespecial 51, 3) := by decide +kernel
theorem dD_addRevision_8 : decode cD_addRevision 8 = .ok (.astore_n 2, 1) := by decide +kernel
theorem dD_addRevision_9 : decode cD_addRevision 9 = .ok (.aload_n 2, 1) := by decide +kernel
theorem dD_addRevision_10 : decode cD_addRevision 10 = .ok (.getfield 45, 3) := by decide +kernel
theorem dD_addRevision_13 : decode cD_addRevision 13 = .ok (.aload_n 0, 1) := by decide +kernel
theorem dD_addRevision_14 : decode cD_addRevision 14 = .ok (.getfield 24, 3) := by decide +kernel
theorem dD_addRevision_17 : decode cD_addRevision 17 = .ok (.invokevirtual 54, 3) := by decide +kernel
theorem dD_addRevision_20 : decode cD_addRevision 20 = .ok (.aload_n 0, 1) := by decide +kernel
theorem dD_addRevision_21 : decode cD_addRevision 21 = .ok (.getfield 11, 3) := by decide +kernel
theorem dD_addRevision_24 : decode cD_addRevision 24 = .ok (.aload_n 0, 1) := by decide +kernel
theorem dD_addRevision_25 : decode cD_addRevision 25 = .ok (.getfield 31, 3) := by decide +kernel
theorem dD_addRevision_28 : decode cD_addRevision 28 = .ok (.aload_n 2, 1) := by decide +kernel
theorem dD_addRevision_29 : decode cD_addRevision 29 = .ok (.aastore, 1) := by decide +kernel
theorem dD_addRevision_30 : decode cD_addRevision 30 = .ok (.aload_n 0, 1) := by decide +kernel
theorem dD_addRevision_31 : decode cD_addRevision 31 = .ok (.dup, 1) := by decide +kernel
theorem dD_addRevision_32 : decode cD_addRevision 32 = .ok (.getfield 31, 3) := by decide +kernel
theorem dD_addRevision_35 : decode cD_addRevision 35 = .ok (.iconst 1, 1) := by decide +kernel
theorem dD_addRevision_36 : decode cD_addRevision 36 = .ok (.iadd, 1) := by decide +kernel
theorem dD_addRevision_37 : decode cD_addRevision 37 = .ok (.putfield 31, 3) := by decide +kernel
theorem dD_addRevision_40 : decode cD_addRevision 40 = .ok (.return_, 1) := by decide +kernel
abbrev cV_drawing : ByteArray := prog_1_method_3_code
abbrev yV_drawing : MethodName := ⟨"DrawingVault", "drawing", "(I)I"⟩
theorem dV_drawing_0 : decode cV_drawing 0 = .ok (.aload_n 0, 1) := by decide +kernel
theorem dV_drawing_1 : decode cV_drawing 1 = .ok (.invokevirtual 44, 3) := by decide +kernel
theorem dV_drawing_4 : decode cV_drawing 4 = .ok (.aload_n 0, 1) := by decide +kernel
theorem dV_drawing_5 : decode cV_drawing 5 = .ok (.aload_n 0, 1) := by decide +kernel
theorem dV_drawing_6 : decode cV_drawing 6 = .ok (.iload_n 1, 1) := by decide +kernel
theorem dV_drawing_7 : decode cV_drawing 7 = .ok (.invokevirtual 59, 3) := by decide +kernel
theorem dV_drawing_10 : decode cV_drawing 10 = .ok (.iconst 2, 1) := by decide +kernel
theorem dV_drawing_11 : decode cV_drawing 11 = .ok (.invokevirtual 51, 3) := by decide +kernel
theorem dV_drawing_14 : decode cV_drawing 14 = .ok (.ifCond .ne 5, 3) := by decide +kernel
theorem dV_drawing_17 : decode cV_drawing 17 = .ok (.iconst (-1), 1) := by decide +kernel
theorem dV_drawing_18 : decode cV_drawing 18 = .ok (.ireturn, 1) := by decide +kernel
theorem dV_drawing_19 : decode cV_drawing 19 = .ok (.new 13, 3) := by decide +kernel
theorem dV_drawing_22 : decode cV_drawing 22 = .ok (.dup, 1) := by decide +kernel
theorem dV_drawing_23 : decode cV_drawing 23 = .ok (.invokespecial 63, 3) := by decide +kernel
theorem dV_drawing_26 : decode cV_drawing 26 = .ok (.astore_n 2, 1) := by decide +kernel
theorem dV_drawing_27 : decode cV_drawing 27 = .ok (.aload_n 2, 1) := by decide +kernel
theorem dV_drawing_28 : decode cV_drawing 28 = .ok (.iload_n 1, 1) := by decide +kernel
theorem dV_drawing_29 : decode cV_drawing 29 = .ok (.invokevirtual 64, 3) := by decide +kernel
theorem dV_drawing_32 : decode cV_drawing 32 = .ok (.aload_n 0, 1) := by decide +kernel
theorem dV_drawing_33 : decode cV_drawing 33 = .ok (.getfield 67, 3) := by decide +kernel
theorem dV_drawing_36 : decode cV_drawing 36 = .ok (.istore_n 3, 1) := by decide +kernel
theorem dV_drawing_37 : decode cV_drawing 37 = .ok (.aload_n 0, 1) := by decide +kernel
theorem dV_drawing_38 : decode cV_drawing 38 = .ok (.getfield 15, 3) := by decide +kernel
theorem dV_drawing_41 : decode cV_drawing 41 = .ok (.iload_n 3, 1) := by decide +kernel
theorem dV_drawing_42 : decode cV_drawing 42 = .ok (.aload_n 2, 1) := by decide +kernel
theorem dV_drawing_43 : decode cV_drawing 43 = .ok (.aastore, 1) := by decide +kernel
theorem dV_drawing_44 : decode cV_drawing 44 = .ok (.aload_n 0, 1) := by decide +kernel
theorem dV_drawing_45 : decode cV_drawing 45 = .ok (.dup, 1) := by decide +kernel
theorem dV_drawing_46 : decode cV_drawing 46 = .ok (.getfield 67, 3) := by decide +kernel
theorem dV_drawing_49 : decode cV_drawing 49 = .ok (.iconst 1, 1) := by decide +kernel
theorem dV_drawing_50 : decode cV_drawing 50 = .ok (.iadd, 1) := by decide +kernel
theorem dV_drawing_51 : decode cV_drawing 51 = .ok (.putfield 67, 3) := by decide +kernel
theorem dV_drawing_54 : decode cV_drawing 54 = .ok (.aload_n 0, 1) := by decide +kernel
theorem dV_drawing_55 : decode cV_drawing 55 = .ok (.dup, 1) := by decide +kernel
theorem dV_drawing_56 : decode cV_drawing 56 = .ok (.getfield 71, 3) := by decide +kernel
theorem dV_drawing_59 : decode cV_drawing 59 = .ok (.iconst 1, 1) := by decide +kernel
theorem dV_drawing_60 : decode cV_drawing 60 = .ok (.iadd, 1) := by decide +kernel
theorem dV_drawing_61 : decode cV_drawing 61 = .ok (.putfield 71, 3) := by decide +kernel
theorem dV_drawing_64 : decode cV_drawing 64 = .ok (.aload_n 0, 1) := by decide +kernel
theorem dV_drawing_65 : decode cV_drawing 65 = .ok (.iconst 2, 1) := by decide +kernel
theorem dV_drawing_66 : decode cV_drawing 66 = .ok (.invokevirtual 55, 3) := by decide +kernel
theorem dV_drawing_69 : decode cV_drawing 69 = .ok (.iload_n 3, 1) := by decide +kernel
theorem dV_drawing_70 : decode cV_drawing 70 = .ok (.ireturn, 1) := by decide +kernel
abbrev cV_checkIn : ByteArray := prog_1_method_10_code
abbrev yV_checkIn : MethodName := ⟨"DrawingVault", "checkIn", "(II)I"⟩
theorem dV_checkIn_0 : decode cV_checkIn 0 = .ok (.aload_n 0, 1) := by decide +kernel
theorem dV_checkIn_1 : decode cV_checkIn 1 = .ok (.invokevirtual 44, 3) := by decide +kernel
theorem dV_checkIn_4 : decode cV_checkIn 4 = .ok (.aload_n 0, 1) := by decide +kernel
theorem dV_checkIn_5 : decode cV_checkIn 5 = .ok (.iload_n 1, 1) := by decide +kernel
theorem dV_checkIn_6 : decode cV_checkIn 6 = .ok (.invokevirtual 74, 3) := by decide +kernel
theorem dV_checkIn_9 : decode cV_checkIn 9 = .ok (.astore_n 3, 1) := by decide +kernel
theorem dV_checkIn_10 : decode cV_checkIn 10 = .ok (.aload_n 0, 1) := by decide +kernel
theorem dV_checkIn_11 : decode cV_checkIn 11 = .ok (.aload_n 3, 1) := by decide +kernel
theorem dV_checkIn_12 : decode cV_checkIn 12 = .ok (.iload_n 2, 1) := by decide +kernel
theorem dV_checkIn_13 : decode cV_checkIn 13 = .ok (.invokevirtual 85, 3) := by decide +kernel
theorem dV_checkIn_16 : decode cV_checkIn 16 = .ok (.istore 4, 2) := by decide +kernel
theorem dV_checkIn_18 : decode cV_checkIn 18 = .ok (.iconst 0, 1) := by decide +kernel
theorem dV_checkIn_19 : decode cV_checkIn 19 = .ok (.istore 5, 2) := by decide +kernel
theorem dV_checkIn_21 : decode cV_checkIn 21 = .ok (.iload 4, 2) := by decide +kernel
theorem dV_checkIn_23 : decode cV_checkIn 23 = .ok (.ifCond .ne 26, 3) := by decide +kernel
theorem dV_checkIn_26 : decode cV_checkIn 26 = .ok (.aload_n 0, 1) := by decide +kernel
theorem dV_checkIn_27 : decode cV_checkIn 27 = .ok (.iload_n 1, 1) := by decide +kernel
theorem dV_checkIn_28 : decode cV_checkIn 28 = .ok (.aload_n 3, 1) := by decide +kernel
theorem dV_checkIn_29 : decode cV_checkIn 29 = .ok (.invokevirtual 124, 3) := by decide +kernel
theorem dV_checkIn_32 : decode cV_checkIn 32 = .ok (.istore 4, 2) := by decide +kernel
theorem dV_checkIn_34 : decode cV_checkIn 34 = .ok (.iconst 2, 1) := by decide +kernel
theorem dV_checkIn_35 : decode cV_checkIn 35 = .ok (.aload_n 0, 1) := by decide +kernel
theorem dV_checkIn_36 : decode cV_checkIn 36 = .ok (.getfield 33, 3) := by decide +kernel
theorem dV_checkIn_39 : decode cV_checkIn 39 = .ok (.aload_n 3, 1) := by decide +kernel
theorem dV_checkIn_40 : decode cV_checkIn 40 = .ok (.getfield 91, 3) := by decide +kernel
theorem dV_checkIn_43 : decode cV_checkIn 43 = .ok (.invokevirtual 128, 3) := by decide +kernel
theorem dV_checkIn_46 : decode cV_checkIn 46 = .ok (.iadd, 1) := by decide +kernel
theorem dV_checkIn_47 : decode cV_checkIn 47 = .ok (.istore 5, 2) := by decide +kernel
theorem dV_checkIn_49 : decode cV_checkIn 49 = .ok (.aload_n 0, 1) := by decide +kernel
theorem dV_checkIn_50 : decode cV_checkIn 50 = .ok (.iload 4, 2) := by decide +kernel
theorem dV_checkIn_52 : decode cV_checkIn 52 = .ok (.iload 5, 2) := by decide +kernel
theorem dV_checkIn_54 : decode cV_checkIn 54 = .ok (.invokevirtual 51, 3) := by decide +kernel
theorem dV_checkIn_57 : decode cV_checkIn 57 = .ok (.ifCond .ne 5, 3) := by decide +kernel
theorem dV_checkIn_60 : decode cV_checkIn 60 = .ok (.iconst (-1), 1) := by decide +kernel
theorem dV_checkIn_61 : decode cV_checkIn 61 = .ok (.ireturn, 1) := by decide +kernel
theorem dV_checkIn_62 : decode cV_checkIn 62 = .ok (.aload_n 3, 1) := by decide +kernel
theorem dV_checkIn_63 : decode cV_checkIn 63 = .ok (.iload_n 2, 1) := by decide +kernel
theorem dV_checkIn_64 : decode cV_checkIn 64 = .ok (.invokevirtual 64, 3) := by decide +kernel
theorem dV_checkIn_67 : decode cV_checkIn 67 = .ok (.aload_n 3, 1) := by decide +kernel
theorem dV_checkIn_68 : decode cV_checkIn 68 = .ok (.invokevirtual 88, 3) := by decide +kernel
theorem dV_checkIn_71 : decode cV_checkIn 71 = .ok (.aload_n 0, 1) := by decide +kernel
theorem dV_checkIn_72 : decode cV_checkIn 72 = .ok (.dup, 1) := by decide +kernel
theorem dV_checkIn_73 : decode cV_checkIn 73 = .ok (.getfield 71, 3) := by decide +kernel
theorem dV_checkIn_76 : decode cV_checkIn 76 = .ok (.iconst 1, 1) := by decide +kernel
theorem dV_checkIn_77 : decode cV_checkIn 77 = .ok (.iadd, 1) := by decide +kernel
theorem dV_checkIn_78 : decode cV_checkIn 78 = .ok (.putfield 71, 3) := by decide +kernel
theorem dV_checkIn_81 : decode cV_checkIn 81 = .ok (.aload_n 0, 1) := by decide +kernel
theorem dV_checkIn_82 : decode cV_checkIn 82 = .ok (.iload 5, 2) := by decide +kernel
theorem dV_checkIn_84 : decode cV_checkIn 84 = .ok (.invokevirtual 55, 3) := by decide +kernel
theorem dV_checkIn_87 : decode cV_checkIn 87 = .ok (.aload_n 3, 1) := by decide +kernel
theorem dV_checkIn_88 : decode cV_checkIn 88 = .ok (.invokevirtual 132, 3) := by decide +kernel
theorem dV_checkIn_91 : decode cV_checkIn 91 = .ok (.ireturn, 1) := by decide +kernel
abbrev cV_baseline : ByteArray := prog_1_method_14_code
abbrev yV_baseline : MethodName := ⟨"DrawingVault", "baseline", "(II)I"⟩
theorem dV_baseline_0 : decode cV_baseline 0 = .ok (.aload_n 0, 1) := by decide +kernel
theorem dV_baseline_1 : decode cV_baseline 1 = .ok (.invokevirtual 44, 3) := by decide +kernel
theorem dV_baseline_4 : decode cV_baseline 4 = .ok (.aload_n 0, 1) := by decide +kernel
theorem dV_baseline_5 : decode cV_baseline 5 = .ok (.iload_n 1, 1) := by decide +kernel
theorem dV_baseline_6 : decode cV_baseline 6 = .ok (.iload_n 2, 1) := by decide +kernel
theorem dV_baseline_7 : decode cV_baseline 7 = .ok (.invokevirtual 150, 3) := by decide +kernel
theorem dV_baseline_10 : decode cV_baseline 10 = .ok (.istore_n 3, 1) := by decide +kernel
theorem dV_baseline_11 : decode cV_baseline 11 = .ok (.aload_n 0, 1) := by decide +kernel
theorem dV_baseline_12 : decode cV_baseline 12 = .ok (.getfield 26, 3) := by decide +kernel
theorem dV_baseline_15 : decode cV_baseline 15 = .ok (.invokevirtual 154, 3) := by decide +kernel
theorem dV_baseline_18 : decode cV_baseline 18 = .ok (.istore 4, 2) := by decide +kernel
theorem dV_baseline_20 : decode cV_baseline 20 = .ok (.aload_n 0, 1) := by decide +kernel
theorem dV_baseline_21 : decode cV_baseline 21 = .ok (.iload_n 3, 1) := by decide +kernel
theorem dV_baseline_22 : decode cV_baseline 22 = .ok (.iload 4, 2) := by decide +kernel
theorem dV_baseline_24 : decode cV_baseline 24 = .ok (.invokevirtual 51, 3) := by decide +kernel
theorem dV_baseline_27 : decode cV_baseline 27 = .ok (.ifCond .ne 5, 3) := by decide +kernel
theorem dV_baseline_30 : decode cV_baseline 30 = .ok (.iconst (-1), 1) := by decide +kernel
theorem dV_baseline_31 : decode cV_baseline 31 = .ok (.ireturn, 1) := by decide +kernel
theorem dV_baseline_32 : decode cV_baseline 32 = .ok (.aload_n 0, 1) := by decide +kernel
theorem dV_baseline_33 : decode cV_baseline 33 = .ok (.getfield 26, 3) := by decide +kernel
theorem dV_baseline_36 : decode cV_baseline 36 = .ok (.astore 5, 2) := by decide +kernel
theorem dV_baseline_38 : decode cV_baseline 38 = .ok (.aload_n 0, 1) := by decide +kernel
theorem dV_baseline_39 : decode cV_baseline 39 = .ok (.getfield 21, 3) := by decide +kernel
theorem dV_baseline_42 : decode cV_baseline 42 = .ok (.iload_n 1, 1) := by decide +kernel
theorem dV_baseline_43 : decode cV_baseline 43 = .ok (.aload 5, 2) := by decide +kernel
theorem dV_baseline_45 : decode cV_baseline 45 = .ok (.aastore, 1) := by decide +kernel
theorem dV_baseline_46 : decode cV_baseline 46 = .ok (.aload_n 0, 1) := by decide +kernel
theorem dV_baseline_47 : decode cV_baseline 47 = .ok (.new 19, 3) := by decide +kernel
theorem dV_baseline_50 : decode cV_baseline 50 = .ok (.dup, 1) := by decide +kernel
theorem dV_baseline_51 : decode cV_baseline 51 = .ok (.invokespecial 25, 3) := by decide +kernel
theorem dV_baseline_54 : decode cV_baseline 54 = .ok (.putfield 26, 3) := by decide +kernel
theorem dV_baseline_57 : decode cV_baseline 57 = .ok (.aload_n 0, 1) := by decide +kernel
theorem dV_baseline_58 : decode cV_baseline 58 = .ok (.iload 4, 2) := by decide +kernel
theorem dV_baseline_60 : decode cV_baseline 60 = .ok (.invokevirtual 55, 3) := by decide +kernel
theorem dV_baseline_63 : decode cV_baseline 63 = .ok (.aload 5, 2) := by decide +kernel
theorem dV_baseline_65 : decode cV_baseline 65 = .ok (.getfield 157, 3) := by decide +kernel
theorem dV_baseline_68 : decode cV_baseline 68 = .ok (.ireturn, 1) := by decide +kernel
theorem wd_676 : (.instantiable "DrawingVault$Revision" 3 : Cond) ∈ aw := aw_in (tb_2 (List.mem_of_getElem? (i := 183) rfl)) rfl
theorem wd_677 : (.initialized "DrawingVault$Revision" : Cond) ∈ aw := aw_in (tb_1 (List.mem_of_getElem? (i := 15) rfl)) rfl
theorem wd_678 : (.code ⟨"DrawingVault$Revision", "<init>", "(I)V"⟩ prog_7_method_1_code 2 (Option.none : Option Jvm.ClassFile.FieldType) : Cond) ∈ aw := aw_in (tb_2 (List.mem_of_getElem? (i := 186) rfl)) rfl
theorem wd_679 : (.methodLink "DrawingVault$Drawing" 51 ⟨"DrawingVault$Revision", "<init>", "(I)V"⟩ : Cond) ∈ aw := aw_in (tb_2 (List.mem_of_getElem? (i := 184) rfl)) rfl
theorem wd_680 : (.instanceMethod ⟨"DrawingVault$Revision", "<init>", "(I)V"⟩ : Cond) ∈ aw := aw_in (tb_2 (List.mem_of_getElem? (i := 185) rfl)) rfl
theorem wd_681 : (.code ⟨"DrawingVault", "drawingRefusal", "(I)I"⟩ prog_1_method_30_code 3 (Option.some .int) : Cond) ∈ aw := aw_in (tb_2 (List.mem_of_getElem? (i := 119) rfl)) rfl
theorem wd_682 : (.methodLink "DrawingVault" 59 ⟨"DrawingVault", "drawingRefusal", "(I)I"⟩ : Cond) ∈ aw := aw_in (tb_2 (List.mem_of_getElem? (i := 116) rfl)) rfl
theorem wd_683 : (.instanceMethod ⟨"DrawingVault", "drawingRefusal", "(I)I"⟩ : Cond) ∈ aw := aw_in (tb_2 (List.mem_of_getElem? (i := 118) rfl)) rfl
theorem wd_684 : (.selects "DrawingVault" ⟨"DrawingVault", "drawingRefusal", "(I)I"⟩ ⟨"DrawingVault", "drawingRefusal", "(I)I"⟩ : Cond) ∈ aw := aw_in (tb_s (q := (⟨"DrawingVault", "drawingRefusal", "(I)I"⟩, _)) (List.mem_append_left _ (List.mem_of_getElem? (i := 14) rfl))) rfl
theorem wd_685 : (.instantiable "DrawingVault$Drawing" 5 : Cond) ∈ aw := aw_in (tb_2 (List.mem_of_getElem? (i := 124) rfl)) rfl
theorem wd_686 : (.code ⟨"DrawingVault$Drawing", "<init>", "()V"⟩ prog_5_method_1_code 1 (Option.none : Option Jvm.ClassFile.FieldType) : Cond) ∈ aw := aw_in (tb_2 (List.mem_of_getElem? (i := 127) rfl)) rfl
theorem wd_687 : (.instanceMethod ⟨"DrawingVault$Drawing", "<init>", "()V"⟩ : Cond) ∈ aw := aw_in (tb_2 (List.mem_of_getElem? (i := 126) rfl)) rfl
theorem wd_688 : (.code ⟨"DrawingVault$Drawing", "addRevision", "(I)V"⟩ prog_5_method_6_code 3 (Option.none : Option Jvm.ClassFile.FieldType) : Cond) ∈ aw := aw_in (tb_2 (List.mem_of_getElem? (i := 182) rfl)) rfl
theorem wd_689 : (.methodLink "DrawingVault" 64 ⟨"DrawingVault$Drawing", "addRevision", "(I)V"⟩ : Cond) ∈ aw := aw_in (tb_2 (List.mem_of_getElem? (i := 179) rfl)) rfl
theorem wd_690 : (.instanceMethod ⟨"DrawingVault$Drawing", "addRevision", "(I)V"⟩ : Cond) ∈ aw := aw_in (tb_2 (List.mem_of_getElem? (i := 180) rfl)) rfl
theorem wd_691 : (.selects "DrawingVault$Drawing" ⟨"DrawingVault$Drawing", "addRevision", "(I)V"⟩ ⟨"DrawingVault$Drawing", "addRevision", "(I)V"⟩ : Cond) ∈ aw := aw_in (tb_2 (List.mem_of_getElem? (i := 181) rfl)) rfl
theorem wd_692 : (.code ⟨"DrawingVault", "checkInRefusal", "(ILDrawingVault$Drawing;)I"⟩ prog_1_method_34_code 5 (Option.some .int) : Cond) ∈ aw := aw_in (tb_3 (List.mem_of_getElem? (i := 75) rfl)) rfl
theorem wd_693 : (.methodLink "DrawingVault" 124 ⟨"DrawingVault", "checkInRefusal", "(ILDrawingVault$Drawing;)I"⟩ : Cond) ∈ aw := aw_in (tb_3 (List.mem_of_getElem? (i := 72) rfl)) rfl
theorem wd_694 : (.instanceMethod ⟨"DrawingVault", "checkInRefusal", "(ILDrawingVault$Drawing;)I"⟩ : Cond) ∈ aw := aw_in (tb_3 (List.mem_of_getElem? (i := 74) rfl)) rfl
theorem wd_695 : (.selects "DrawingVault" ⟨"DrawingVault", "checkInRefusal", "(ILDrawingVault$Drawing;)I"⟩ ⟨"DrawingVault", "checkInRefusal", "(ILDrawingVault$Drawing;)I"⟩ : Cond) ∈ aw := aw_in (tb_s (q := (⟨"DrawingVault", "checkInRefusal", "(ILDrawingVault$Drawing;)I"⟩, _)) (List.mem_append_right _ (List.mem_append_left _ (List.mem_of_getElem? (i := 3) rfl)))) rfl
theorem wd_696 : (.code ⟨"DrawingVault", "baselineRefusal", "(II)I"⟩ prog_1_method_38_code 5 (Option.some .int) : Cond) ∈ aw := aw_in (tb_3 (List.mem_of_getElem? (i := 168) rfl)) rfl
theorem wd_697 : (.methodLink "DrawingVault" 150 ⟨"DrawingVault", "baselineRefusal", "(II)I"⟩ : Cond) ∈ aw := aw_in (tb_3 (List.mem_of_getElem? (i := 165) rfl)) rfl
theorem wd_698 : (.instanceMethod ⟨"DrawingVault", "baselineRefusal", "(II)I"⟩ : Cond) ∈ aw := aw_in (tb_3 (List.mem_of_getElem? (i := 167) rfl)) rfl
theorem wd_699 : (.selects "DrawingVault" ⟨"DrawingVault", "baselineRefusal", "(II)I"⟩ ⟨"DrawingVault", "baselineRefusal", "(II)I"⟩ : Cond) ∈ aw := aw_in (tb_s (q := (⟨"DrawingVault", "baselineRefusal", "(II)I"⟩, _)) (List.mem_append_right _ (List.mem_append_left _ (List.mem_of_getElem? (i := 15) rfl)))) rfl

def D_addRevision (σ : hT) (j0 : Nat) (a1 : Int32) (nw : Nat) : Option (Unit × hT) := lt9 (nS σ nw a1) fun σ9 => Option.bind (C_takeFrom σ9 (3 * nw + 2) (3 * j0)) fun ⟨y15, σ16⟩ => if in9 (xI σ16 701 j0 0) 12 then lt9 (sR σ16 23 j0 ((xI σ16 701 j0 0)).toNatClampNeg (some nw)) fun σ19 => lt9 (sI σ19 701 j0 0 ((xI σ19 701 j0 0) + 1)) fun σ24 => some ((), σ24) else none
set_option maxHeartbeats 4000000 in
set_option maxRecDepth 100000 in
theorem t_D_addRevision (l : Launch) (dC : Nat → ClassId) (dI : Nat → Nat → Nat) (ad : Nat → Nat → Nat) (ca : Nat → Nat → ClassId) (dom : List (Nat × Nat)) (sz : Nat) (σ : hT) (j0 : Nat) (a1 : Int32) (nw : Nat) (hm0 : (6, j0) ∈ dom) (hfr7 : ∀ r ∈ row7 nw, r ∉ dom) (hN : dom.Nodup) (hC : clo dom σ.2.2) (ρ : Unit) (σ' : hT) (hf : D_addRevision σ j0 a1 nw = some (ρ, σ')) : Met l yD_addRevision (.code yD_addRevision cD_addRevision 3 none :: aw) ({ frames := 3, cells := 5, slots := 28, locals := 61 }) (hW (dC, dI) sz ad ca dom σ [.ref (ad 6 j0), .int a1]) (va_Qv (fun (_ : ((Nat → Nat → Nat) × (Nat → Nat → ClassId))) => True) (fun u t => hBn (dC, dI) (va_A (w9 ad ca dom σ) sz) ad dom u.1 u.2 (dom ++ row7 nw) σ' t) (va_A (w9 ad ca dom σ) sz)) 5 28 (va_A (w9 ad ca dom σ) sz) := by
  refine Met.ofW (cc := cD_addRevision) (maxL := 3) (ret := none) (by decide) rfl ?_
  intro p e s m args below meth c s₁ B hml hv
  obtain ⟨rfl, hv⟩ := hv
  have hx := B.exec
  have hb := B.bytes
  have hr := B.returns
  have hts : ∀ w ∈ aw, w.before _ s = true := fun w h => atoms_spec (ws := (.code yD_addRevision cD_addRevision 3 none :: aw)) B.pre w (List.mem_cons_of_mem _ h)
  have hown : s.vm.findClass RD = some m.cls := findClass_of_methodNamed B.named
  have hlocks := B.notSynchronized
  obtain ⟨hsz, hP, hK, hD0, hG⟩ := hv
  subst hsz
  have hD := hD0.self (sz := s.heap.size)
  generalize hAe : va_A (w9 ad ca dom σ) s.heap.size = A at hD ⊢
  have hA : ∀ q : Nat, s.heap.size ≤ q → A q := fun q h => by rw [← hAe]; exact Or.inr h
  obtain ⟨H, hH⟩ : ∃ H, H = s.heap := ⟨_, rfl⟩
  have hS : va_S A s.heap H [] := by rw [hH]; exact va_S.rf
  rw [← hH] at hP ⊢
  unfold D_addRevision at hf
  have hl := lv_entry ([.ref (ad 6 j0), .int a1]) (n := 3) (Nat.le_of_ble_eq_true rfl)
  rw [lg_entry_eq]
  generalize (lg_sl ([.ref (ad 6 j0), .int a1]) ++ List.replicate (3 - (lg_sl ([.ref (ad 6 j0), .int a1])).length) Slot.unset).toArray = ls at hl ⊢
  have hl : lv_has ls 3 [(0, .ref (ad 6 j0)), (1, .int a1)] := hl
  have hCo := hC
  refine va_new (D := (dC, dI)) (cl := kCl) (pc := 0) (ci := 7) (fs := [.null, .int 0, .int 0]) (C := RS) (T := TS) (N := 3) hx hb hts inS tyS tyS_ok hown (hts _ wd_656) (hts _ wd_676) (hts _ wd_677) hK.1 hP hD hS hA rfl (fun j hj => by rcases (show j = 0 ∨ j = 1 ∨ j = 2 by omega) with rfl | rfl | rfl <;> rfl) (Nat.le_of_ble_eq_true rfl) (Nat.le_of_ble_eq_true rfl) dD_addRevision_0 (fun q1 H hP hD hS => ?_)
  refine W.widen (k := 1) (n := 3) (Nat.le_of_ble_eq_true rfl) (Nat.le_of_ble_eq_true rfl) ?_
  refine lv_dup (pc := 3) hx hb dD_addRevision_3 rfl ?_
  refine lv_iload_n (pc := 4) hx hb dD_addRevision_4 rfl (lv_at hl 1 rfl) ?_
  have hPc : va_P (dC, dI) kCl [(q1, .inr (7, [.null, .int 0, .int 0]))] H := la9 hP
  have hDc := lb9 hD
  have hFc : ∀ z, va_A [(q1, .inr (7, [.null, .int 0, .int 0]))] H.size z → A z := lc9 hD hS hA
  refine va_callv (pc := 5) (va_runI (As := [.int a1]) (rest := [.ref q1]) ⟨hx, hb, hml, hown, hts⟩ (gs_init l dC dI H.size q1 a1) (cwI 1 hts (gI wd_678) rfl rfl rfl (hts _ wd_677) (hts _ wd_679) (hts _ wd_680) rfl (by decide +kernel) ⟨Nat.le_of_ble_eq_true rfl, Nat.le_of_ble_eq_true rfl⟩) ⟨pW_blind, pW_pre hPc hK.1 hDc hG⟩ rfl rfl hl.1 rfl (lv_room (Nat.le_of_ble_eq_true rfl)) dD_addRevision_5 ⟨Nat.le_of_ble_eq_true rfl, Nat.le_of_ble_eq_true rfl⟩) hS (fun q _ h => hFc q h) hFc (fun u t H1 locs ht hvm hr9 hB hz1 hk1 hS => ?_)
  obtain ⟨z2, z3, z4, z5, z6, z7, z8, hP1, hKn, hD1⟩ := hB
  rw [ht] at hP1
  replace hKn := va_K.moved hvm.symm hKn
  obtain ⟨hP, hD⟩ := jn_c9 hP hD hk1 hFc hP1 hD1
  generalize H1 = H at hP hS ⊢
  obtain ⟨ad1, ca1, ha1, hq1, hP, hD, hK1, hC, hN1⟩ := imx_7 (n := nw) hN hC hK hfr7 hKn hP hD
  refine W.widen (k := 5) (n := 28) (Nat.le_of_ble_eq_true rfl) (Nat.le_of_ble_eq_true rfl) ?_
  obtain ⟨dom1, hd1⟩ : ∃ d, d = dom ++ row7 nw := ⟨_, rfl⟩
  rw [← hd1] at hP hD hK1 hC hN1
  have hdm1 : ∀ r, r ∈ dom → r ∈ dom1 := fun r h => by rw [hd1]; exact List.mem_append_left _ h
  have hag1 : ∀ κ j, (κ, j) ∈ dom → ad1 κ j = ad κ j := ha1
  have hdo1 : ∀ r, r ∈ dom → r ∈ dom1 := hdm1
  have hm10x := hm0
  have hm10 : (6, j0) ∈ dom1 := hdm1 _ hm10x
  have hl : lv_has ls 3 [(0, .ref (ad1 6 j0)), (1, .int a1)] := by simp only [ha1 6 j0 hm10x]; exact hl
  obtain ⟨σ9, hσ9, hf⟩ := lt_9 hf
  rw [← hσ9] at hP hD hC
  have hm11 : (7, nw) ∈ dom1 := by rw [hd1]; exact List.mem_append_right _ (by simp [row7])
  refine W.eq (g2 := F0 m 8 ls [.ref (ad1 7 nw)]) (by simp only [hq1]) ?_
  refine lv_astore_n (pc := 8) hx hb dD_addRevision_8 rfl hl (by decide) rfl (fun ls hl => ?_)
  have hl : lv_has ls 3 [(2, .ref (ad1 7 nw)), (0, .ref (ad1 6 j0)), (1, .int a1)] := hl
  refine lv_aload_n (pc := 9) hx hb dD_addRevision_9 rfl (lv_at hl 0 rfl) ?_
  obtain ⟨q12, hq12, eq12⟩ := at_7 (ad := ad1) (ca := ca1) (σ := σ9) hm11
  refine va_get (D := (dC, dI)) (cl := kCl) (C := RS) (T := TS) (N := 3) (pc := 10) hx hb hts inS hown hK1.1 hP q12 eq12 rfl 0 (by decide) (hts _ wd_299) (fun _ h9 => h9) rfl dD_addRevision_10 ?_
  refine lv_aload_n (pc := 13) hx hb dD_addRevision_13 rfl (lv_at hl 1 rfl) ?_
  obtain ⟨q13, hq13, eq13⟩ := at_6 (ad := ad1) (ca := ca1) (σ := σ9) hm10
  refine va_get (D := (dC, dI)) (cl := kCl) (C := RD) (T := TD) (N := 5) (pc := 14) hx hb hts inD hown hK1.1 hP q13 eq13 rfl 3 (by decide) (hts _ wd_305) (fun _ h9 => h9) rfl dD_addRevision_14 ?_
  obtain ⟨q14, hq14, eq14⟩ := at_5 (ad := ad1) (ca := ca1) (σ := σ9) (cm_7_0 hC hm11)
  obtain ⟨⟨y15, σ16⟩, hy15, hf⟩ := ob hf
  have hFc := w9_free hD hS hA
  refine va_callv (pc := 17) (va_runV (As := [.ref (ad1 5 (3 * j0))]) (rest := []) ⟨hx, hb, hml, hown, hts⟩ (t_C_takeFrom l dC dI ad1 ca1 dom1 H.size σ9 (3 * nw + 2) (3 * j0) (cm_7_0 hC hm11) (cm_6_3 hC hm10) hN1 hC y15 σ16 hy15) (cwV 1 hts (gV wd_307 wd_308 wd_309 wd_228 wd_306) rfl rfl rfl (by decide +kernel) ⟨Nat.le_of_ble_eq_true rfl, Nat.le_of_ble_eq_true rfl⟩) ⟨hW_blind, va_recv (q := (RC, TC, 5)) (q0 := q14) (ci := 5) hK1.1 hP rfl eq14, hW_pre hP hK1 hD hG⟩ rfl rfl hl.1 rfl (lv_room (Nat.le_of_ble_eq_true rfl)) dD_addRevision_17 ⟨Nat.le_of_ble_eq_true rfl, Nat.le_of_ble_eq_true rfl⟩) hS (fun q _ h => hFc q h) hFc (fun u t H1 locs ht hvm hr9 hB hz1 hk1 hS => ?_)
  obtain ⟨hP, hD, hC⟩ := hB
  rw [ht] at hP
  replace hD := hD.weaken (fun _ _ _ h => hFc _ h)
  generalize H1 = H at hP hS ⊢
  refine lv_aload_n (pc := 20) hx hb dD_addRevision_20 rfl (lv_at hl 1 rfl) ?_
  obtain ⟨q17, hq17, eq17⟩ := at_6 (ad := ad1) (ca := ca1) (σ := σ16) hm10
  refine va_get (D := (dC, dI)) (cl := kCl) (C := RD) (T := TD) (N := 5) (pc := 21) hx hb hts inD hown hK1.1 hP q17 eq17 rfl 0 (by decide) (hts _ wd_293) (fun _ h9 => h9) rfl dD_addRevision_21 ?_
  refine lv_aload_n (pc := 24) hx hb dD_addRevision_24 rfl (lv_at hl 1 rfl) ?_
  obtain ⟨q18, hq18, eq18⟩ := at_6 (ad := ad1) (ca := ca1) (σ := σ16) hm10
  refine va_get (D := (dC, dI)) (cl := kCl) (C := RD) (T := TD) (N := 5) (pc := 25) hx hb hts inD hown hK1.1 hP q18 eq18 rfl 1 (by decide) (hts _ wd_287) (fun _ h9 => h9) rfl dD_addRevision_25 ?_
  refine lv_aload_n (pc := 28) hx hb dD_addRevision_28 rfl (lv_at hl 0 rfl) ?_
  obtain ⟨hv20, hf⟩ := ite_s hf
  obtain ⟨q21, hq21, eq21⟩ := at_23 (ad := ad1) (ca := ca1) (σ := σ16) (cm_6_0 hC hm10)
  obtain ⟨q22, hq22, eq22⟩ := at_7 (ad := ad1) (ca := ca1) (σ := σ16) hm11
  refine va_astq (D := (dC, dI)) (cl := kCl) (r := (RS, TS, 3)) (pc := 29) hx hb (hK1.2 23 j0 (.object "DrawingVault$Revision") (cm_6_0 hC hm10) rfl) hP hD hS q21 0 q22 7 eq21 rfl eq22 rfl (hv20) dD_addRevision_29 (fun H locs hP hD hS => ?_)
  have hCn := cs_23 (j := j0) (k := ((xI σ16 701 j0 0)).toNatClampNeg) (v := some nw) hC (fun _ z => Option.some.inj z ▸ hm11)
  obtain ⟨σ19, hσ19, hf⟩ := lt_9 hf
  obtain ⟨hP, hD⟩ := w9_rR 23 rfl hN1 hq21 hσ19 (pa_23) hP hD
  have hC : clo dom1 σ19.2.2 := by rw [hσ19]; exact hCn
  refine lv_aload_n (pc := 30) hx hb dD_addRevision_30 rfl (lv_at hl 1 rfl) ?_
  refine lv_dup (pc := 31) hx hb dD_addRevision_31 rfl ?_
  obtain ⟨q23, hq23, eq23⟩ := at_6 (ad := ad1) (ca := ca1) (σ := σ19) hm10
  refine va_get (D := (dC, dI)) (cl := kCl) (C := RD) (T := TD) (N := 5) (pc := 32) hx hb hts inD hown hK1.1 hP q23 eq23 rfl 1 (by decide) (hts _ wd_287) (fun _ h9 => h9) rfl dD_addRevision_32 ?_
  refine lv_iconst (pc := 35) (v := 1) hx hb dD_addRevision_35 (by decide) ?_
  refine lv_iadd (pc := 36) hx hb dD_addRevision_36 ?_
  obtain ⟨q25, hq25, eq25⟩ := at_6 (ad := ad1) (ca := ca1) (σ := σ19) hm10
  refine va_put (D := (dC, dI)) (cl := kCl) (ci := 6) (v := .int ((xI σ19 701 j0 0) + 1)) (ty := .int) (C := RD) (T := TD) (N := 5) (pc := 37) hx hb hts inD tyD tyD_ok nmD hown hK1.1 hP hD hS q25 eq25 rfl 1 (by decide) (hts _ wd_287) (fun _ h9 => h9) rfl (by decide +kernel) (rfl) (rfl) (Nat.le_of_ble_eq_true rfl) dD_addRevision_37 (fun H locs hP hD hS => ?_)
  obtain ⟨σ24, hσ24, hf⟩ := lt_9 hf
  obtain ⟨hP, hD⟩ := w9_rI 701 rfl hN1 hq25 hσ24 (pu_701) hP hD
  have hC : clo dom1 σ24.2.2 := by rw [hσ24]; exact hC
  obtain ⟨h8, h9⟩ := Prod.mk.inj (Option.some.inj hf)
  subst h9
  have hdE : dom1 = dom ++ row7 nw := hd1
  rw [hdE] at hP hD hK1 hC hN1
  exact W.vret (pc := 40) hx hb hr (fun t ht hW => ⟨⟨(ad1, ca1), rfl, trivial, hag1, by rw [ht]; exact hP, hD, hkt.moved hW.alike hK1, hC, hN1⟩, hS.F ht⟩) hS.2.2 dD_addRevision_40
def V_drawing (n : Nat) (σ : hT) (a1 : Int32) (nw : Nat) : Option ((Option Int32) × hT) := Option.bind (V_needPower σ) fun ⟨y2o, σ3⟩ => ex9 y2o σ3 fun y2 => Option.bind (V_drawingRefusal σ3 a1) fun y5 => Option.bind (V_mayWrite σ3 y5 2) fun ⟨y7o, σ8⟩ => ex9 y7o σ8 fun y7 => if y7 = 0 then some (some (-1), σ8) else lt9 (nD σ8 nw) fun σ27 => Option.bind (D_addRevision σ27 nw a1 (12 * nw)) fun ⟨y31, σ32⟩ => if in9 (xI σ32 102 0 0) 24 then lt9 (sR σ32 9 0 ((xI σ32 102 0 0)).toNatClampNeg (some nw)) fun σ37 => lt9 (sI σ37 102 0 0 ((xI σ37 102 0 0) + 1)) fun σ42 => lt9 (sI σ42 103 0 0 ((xI σ42 103 0 0) + 1)) fun σ45 => Option.bind (V_finish n σ45 2) fun ⟨y48, σ49⟩ => if (xI σ32 102 0 0) = (-1) then none else some (some (xI σ32 102 0 0), σ49) else none
set_option maxHeartbeats 4000000 in
set_option maxRecDepth 100000 in
theorem t_V_drawing (l : Launch) (dC : Nat → ClassId) (dI : Nat → Nat → Nat) (ad : Nat → Nat → Nat) (ca : Nat → Nat → ClassId) (dom : List (Nat × Nat)) (sz : Nat) (n : Nat) (σ : hT) (a1 : Int32) (nw : Nat) (hm0 : (0, 0) ∈ dom) (hfr6 : ∀ r ∈ row6 nw, r ∉ dom) (hfr7 : ∀ r ∈ row7 (12 * nw), r ∉ dom) (hN : dom.Nodup) (hC : clo dom σ.2.2) (ρ : Int32) (σ' : hT) (hf : V_drawing n σ a1 nw = some (some ρ, σ')) : Met l yV_drawing (.code yV_drawing cV_drawing 4 (some .int) :: aw) ({ frames := 6, cells := 15, slots := 95, locals := 125 }) (hW (dC, dI) sz ad ca dom σ [.ref (ad 0 0), .int a1]) (va_Qi (fun r (_ : ((Nat → Nat → Nat) × (Nat → Nat → ClassId))) => r = ρ) (fun u t => hBn (dC, dI) (va_A (w9 ad ca dom σ) sz) ad dom u.1 u.2 (dm9 ρ dom (row6 nw ++ row7 (12 * nw))) σ' t) (va_A (w9 ad ca dom σ) sz)) 15 95 (va_A (w9 ad ca dom σ) sz) := by
  refine Met.ofW (cc := cV_drawing) (maxL := 4) (ret := (some .int)) (by decide) rfl ?_
  intro p e s m args below meth c s₁ B hml hv
  obtain ⟨rfl, hv⟩ := hv
  have hx := B.exec
  have hb := B.bytes
  have hr := B.returns
  have hts : ∀ w ∈ aw, w.before _ s = true := fun w h => atoms_spec (ws := (.code yV_drawing cV_drawing 4 (some .int) :: aw)) B.pre w (List.mem_cons_of_mem _ h)
  have hown : s.vm.findClass RV = some m.cls := findClass_of_methodNamed B.named
  have hlocks := B.notSynchronized
  obtain ⟨hsz, hP, hK, hD0, hG⟩ := hv
  subst hsz
  have hD := hD0.self (sz := s.heap.size)
  generalize hAe : va_A (w9 ad ca dom σ) s.heap.size = A at hD ⊢
  have hA : ∀ q : Nat, s.heap.size ≤ q → A q := fun q h => by rw [← hAe]; exact Or.inr h
  obtain ⟨H, hH⟩ : ∃ H, H = s.heap := ⟨_, rfl⟩
  have hS : va_S A s.heap H [] := by rw [hH]; exact va_S.rf
  rw [← hH] at hP ⊢
  unfold V_drawing at hf
  have hl := lv_entry ([.ref (ad 0 0), .int a1]) (n := 4) (Nat.le_of_ble_eq_true rfl)
  rw [lg_entry_eq]
  generalize (lg_sl ([.ref (ad 0 0), .int a1]) ++ List.replicate (4 - (lg_sl ([.ref (ad 0 0), .int a1])).length) Slot.unset).toArray = ls at hl ⊢
  have hl : lv_has ls 4 [(0, .ref (ad 0 0)), (1, .int a1)] := hl
  refine lv_aload_n (pc := 0) hx hb dV_drawing_0 rfl (lv_at hl 0 rfl) ?_
  obtain ⟨q1, hq1, eq1⟩ := at_0 (ad := ad) (ca := ca) (σ := σ) hm0
  obtain ⟨⟨y2o, σ3⟩, hy2, hf⟩ := ob hf
  obtain ⟨y2, rfl⟩ : ∃ z, y2o = some z := by
    cases y2o with
    | none => exact (ex9_n hf).elim
    | some z => exact ⟨z, rfl⟩
  replace hf := ex9_s hf
  have hFc := w9_free hD hS hA
  refine va_callv (pc := 1) (va_runV (As := []) (rest := []) ⟨hx, hb, hml, hown, hts⟩ (t_V_needPower l dC dI ad ca dom H.size σ hm0 hN hC y2 σ3 hy2) (cwV 0 hts (gV wd_499 wd_500 wd_501 wd_254 wd_498) rfl rfl rfl (by decide +kernel) ⟨Nat.le_of_ble_eq_true rfl, Nat.le_of_ble_eq_true rfl⟩) ⟨hW_blind, va_recv (q := (RV, TV, 9)) (q0 := q1) (ci := 0) hK.1 hP rfl eq1, hW_pre hP hK hD hG⟩ rfl rfl hl.1 rfl (lv_room (Nat.le_of_ble_eq_true rfl)) dV_drawing_1 ⟨Nat.le_of_ble_eq_true rfl, Nat.le_of_ble_eq_true rfl⟩) hS (fun q _ h => hFc q h) hFc (fun u t H1 locs ht hvm hr9 hB hz1 hk1 hS => ?_)
  obtain ⟨hP, hD, hC⟩ := hB
  rw [ht] at hP
  replace hD := hD.weaken (fun _ _ _ h => hFc _ h)
  generalize H1 = H at hP hS ⊢
  refine lv_aload_n (pc := 4) hx hb dV_drawing_4 rfl (lv_at hl 0 rfl) ?_
  refine lv_aload_n (pc := 5) hx hb dV_drawing_5 rfl (lv_at hl 0 rfl) ?_
  refine lv_iload_n (pc := 6) hx hb dV_drawing_6 rfl (lv_at hl 1 rfl) ?_
  obtain ⟨q4, hq4, eq4⟩ := at_0 (ad := ad) (ca := ca) (σ := σ3) hm0
  obtain ⟨y5, hy5, hf⟩ := ob hf
  refine vp_callSi (pc := 7) (W.runV (As := [.int a1]) (rest := [.ref (ad 0 0)]) ⟨hx, hb, hml, hown, hts⟩ (t_V_drawingRefusal l dC dI ad ca dom σ3 a1 hm0 hN hC y5 hy5) (cwV 1 hts (gV wd_682 wd_683 wd_684 wd_254 wd_681) rfl rfl rfl (by decide +kernel) ⟨Nat.le_of_ble_eq_true rfl, Nat.le_of_ble_eq_true rfl⟩) ⟨hR_blind, va_recv (q := (RV, TV, 9)) (q0 := q4) (ci := 0) hK.1 hP rfl eq4, hR_pre hP hK hG⟩ rfl rfl hl.1 rfl (lv_room (Nat.le_of_ble_eq_true rfl)) dV_drawing_7 ⟨Nat.le_of_ble_eq_true rfl, Nat.le_of_ble_eq_true rfl⟩) (fun r9 hr9 => ?_)
  refine W.eq (g2 := F0 m 10 ls [.int y5, .ref (ad 0 0)]) (by rw [hr9]) ?_
  refine lv_iconst (pc := 10) (v := 2) hx hb dV_drawing_10 (by decide) ?_
  obtain ⟨q6, hq6, eq6⟩ := at_0 (ad := ad) (ca := ca) (σ := σ3) hm0
  obtain ⟨⟨y7o, σ8⟩, hy7, hf⟩ := ob hf
  obtain ⟨y7, rfl⟩ : ∃ z, y7o = some z := by
    cases y7o with
    | none => exact (ex9_n hf).elim
    | some z => exact ⟨z, rfl⟩
  replace hf := ex9_s hf
  have hFc := w9_free hD hS hA
  refine va_calli (pc := 11) (va_runV (As := [.int y5, .int 2]) (rest := []) ⟨hx, hb, hml, hown, hts⟩ (t_V_mayWrite l dC dI ad ca dom H.size σ3 y5 2 hm0 hN hC y7 σ8 hy7) (cwV 2 hts (gV wd_491 wd_492 wd_493 wd_254 wd_490) rfl rfl rfl (by decide +kernel) ⟨Nat.le_of_ble_eq_true rfl, Nat.le_of_ble_eq_true rfl⟩) ⟨hW_blind, va_recv (q := (RV, TV, 9)) (q0 := q6) (ci := 0) hK.1 hP rfl eq6, hW_pre hP hK hD hG⟩ rfl rfl hl.1 rfl (lv_room (Nat.le_of_ble_eq_true rfl)) dV_drawing_11 ⟨Nat.le_of_ble_eq_true rfl, Nat.le_of_ble_eq_true rfl⟩) hS (fun q _ h => hFc q h) hFc (fun r9 u t H1 locs ht hvm hr9 hB hz1 hk1 hS => ?_)
  obtain ⟨hP, hD, hC⟩ := hB
  rw [ht] at hP
  replace hD := hD.weaken (fun _ _ _ h => hFc _ h)
  generalize H1 = H at hP hS ⊢
  refine W.eq (g2 := F0 m 14 ls [.int y7]) (by rw [hr9]) ?_
  refine lv_if_ne (pc := 14) (tgt := 19) hx hb dV_drawing_14 rfl (fun h9 => ?_) (fun h9 => ?_)
  · replace hf := ite_f h9 hf
    have hCo := hC
    refine va_new (D := (dC, dI)) (cl := kCl) (pc := 19) (ci := 6) (fs := [.null, .int 0, .int 0, .null, .null]) (C := RD) (T := TD) (N := 5) hx hb hts inD tyD tyD_ok hown (hts _ wd_660) (hts _ wd_685) (hts _ wd_292) hK.1 hP hD hS hA rfl (fun j hj => by rcases (show j = 0 ∨ j = 1 ∨ j = 2 ∨ j = 3 ∨ j = 4 by omega) with rfl | rfl | rfl | rfl | rfl <;> rfl) (Nat.le_of_ble_eq_true rfl) (Nat.le_of_ble_eq_true rfl) dV_drawing_19 (fun q10 H hP hD hS => ?_)
    refine W.widen (k := 1) (n := 5) (Nat.le_of_ble_eq_true rfl) (Nat.le_of_ble_eq_true rfl) ?_
    refine lv_dup (pc := 22) hx hb dV_drawing_22 rfl ?_
    have hPc : va_P (dC, dI) kCl [(q10, .inr (6, [.null, .int 0, .int 0, .null, .null]))] H := la9 hP
    have hDc := lb9 hD
    have hFc : ∀ z, va_A [(q10, .inr (6, [.null, .int 0, .int 0, .null, .null]))] H.size z → A z := lc9 hD hS hA
    refine va_callv (pc := 23) (va_runIN (As := []) (rest := [.ref q10]) ⟨hx, hb, hml, hown, hts⟩ (gd_init l dC dI H.size q10) (⟨va_cnB 0 hts (gI wd_686) rfl rfl rfl (eG_V63 hG) (hts _ wd_292) (by decide +kernel) ⟨Nat.le_of_ble_eq_true rfl, Nat.le_of_ble_eq_true rfl⟩, rfl, hts _ wd_687⟩) ⟨pW_blind, pW_pre hPc hK.1 hDc hG⟩ rfl rfl hl.1 rfl (lv_room (Nat.le_of_ble_eq_true rfl)) dV_drawing_23 ⟨Nat.le_of_ble_eq_true rfl, Nat.le_of_ble_eq_true rfl⟩) hS (fun q _ h => hFc q h) hFc (fun u t H1 locs ht hvm hr9 hB hz1 hk1 hS => ?_)
    obtain ⟨z11, z12, z13, z14, z15, z16, z17, z18, z19, z20, z21, z22, z23, z24, z25, z26, hP1, hKn, hD1⟩ := hB
    rw [ht] at hP1
    replace hKn := va_K.moved hvm.symm hKn
    obtain ⟨hP, hD⟩ := jn_c9 hP hD hk1 hFc hP1 hD1
    generalize H1 = H at hP hS ⊢
    obtain ⟨ad1, ca1, ha1, hq1, hP, hD, hK1, hC, hN1⟩ := imx_6 (n := nw) hN hC hK hfr6 hKn hP hD
    refine W.widen (k := 10) (n := 67) (Nat.le_of_ble_eq_true rfl) (Nat.le_of_ble_eq_true rfl) ?_
    obtain ⟨dom1, hd1⟩ : ∃ d, d = dom ++ row6 nw := ⟨_, rfl⟩
    rw [← hd1] at hP hD hK1 hC hN1
    have hdm1 : ∀ r, r ∈ dom → r ∈ dom1 := fun r h => by rw [hd1]; exact List.mem_append_left _ h
    have hag1 : ∀ κ j, (κ, j) ∈ dom → ad1 κ j = ad κ j := ha1
    have hdo1 : ∀ r, r ∈ dom → r ∈ dom1 := hdm1
    have hm28x := hm0
    have hm28 : (0, 0) ∈ dom1 := hdm1 _ hm28x
    have hl : lv_has ls 4 [(0, .ref (ad1 0 0)), (1, .int a1)] := by simp only [ha1 0 0 hm28x]; exact hl
    obtain ⟨σ27, hσ27, hf⟩ := lt_9 hf
    rw [← hσ27] at hP hD hC
    have hm29 : (6, nw) ∈ dom1 := by rw [hd1]; exact List.mem_append_right _ (by simp [row6])
    refine W.eq (g2 := F0 m 26 ls [.ref (ad1 6 nw)]) (by simp only [hq1]) ?_
    refine lv_astore_n (pc := 26) hx hb dV_drawing_26 rfl hl (by decide) rfl (fun ls hl => ?_)
    have hl : lv_has ls 4 [(2, .ref (ad1 6 nw)), (0, .ref (ad1 0 0)), (1, .int a1)] := hl
    refine lv_aload_n (pc := 27) hx hb dV_drawing_27 rfl (lv_at hl 0 rfl) ?_
    refine lv_iload_n (pc := 28) hx hb dV_drawing_28 rfl (lv_at hl 2 rfl) ?_
    obtain ⟨q30, hq30, eq30⟩ := at_6 (ad := ad1) (ca := ca1) (σ := σ27) hm29
    have hfr7x : ∀ r ∈ row7 (12 * nw), r ∉ dom1 := fun r hr h => by
      rw [hd1] at h
      rcases List.mem_append.mp h with h | h
      · exact hfr7 r hr h
      · rcases r with ⟨κ, j⟩
        simp [row6, row7] at hr h
        omega
    obtain ⟨⟨y31, σ32⟩, hy31, hf⟩ := ob hf
    have hFc := w9_free hD hS hA
    refine va_callv (pc := 29) (va_runV (As := [.int a1]) (rest := []) ⟨hx, hb, hml, hown, hts⟩ (t_D_addRevision l dC dI ad1 ca1 dom1 H.size σ27 nw a1 (12 * nw) hm29 hfr7x hN1 hC y31 σ32 hy31) (cwV 1 hts (gV wd_689 wd_690 wd_691 wd_292 wd_688) rfl rfl rfl (by decide +kernel) ⟨Nat.le_of_ble_eq_true rfl, Nat.le_of_ble_eq_true rfl⟩) ⟨hW_blind, va_recv (q := (RD, TD, 5)) (q0 := q30) (ci := 6) hK1.1 hP rfl eq30, hW_pre hP hK1 hD hG⟩ rfl rfl hl.1 rfl (lv_room (Nat.le_of_ble_eq_true rfl)) dV_drawing_29 ⟨Nat.le_of_ble_eq_true rfl, Nat.le_of_ble_eq_true rfl⟩) hS (fun q _ h => hFc q h) hFc (fun u t H1 locs ht hvm hr9 hB hz1 hk1 hS => ?_)
    have hCo := hC
    obtain ⟨ad2, ca2⟩ := u
    obtain ⟨ha2, hP, hD, hKn, hC, hN2⟩ := hB
    dsimp only at ha2 hP hD hKn
    rw [ht] at hP
    replace hD := hD.weaken (fun _ _ _ h => hFc _ h)
    have hK2 := hkt.moved hvm.symm hKn
    generalize H1 = H at hP hS ⊢
    refine W.widen (k := 15) (n := 95) (Nat.le_of_ble_eq_true rfl) (Nat.le_of_ble_eq_true rfl) ?_
    obtain ⟨dom2, hd2⟩ : ∃ d, d = dom1 ++ row7 (12 * nw) := ⟨_, rfl⟩
    rw [← hd2] at hP hD hK2 hC hN2
    have hdm2 : ∀ r, r ∈ dom1 → r ∈ dom2 := fun r h => by rw [hd2]; exact List.mem_append_left _ h
    have hag2 : ∀ κ j, (κ, j) ∈ dom → ad2 κ j = ad κ j := fun κ j h => (ha2 κ j (hdo1 _ h)).trans (hag1 κ j h)
    have hdo2 : ∀ r, r ∈ dom → r ∈ dom2 := fun r h => hdm2 r (hdo1 r h)
    have hm33x := hm29
    have hm33 : (6, nw) ∈ dom2 := hdm2 _ hm33x
    have hm34x := hm28
    have hm34 : (0, 0) ∈ dom2 := hdm2 _ hm34x
    have hl : lv_has ls 4 [(2, .ref (ad2 6 nw)), (0, .ref (ad2 0 0)), (1, .int a1)] := by simp only [ha2 6 nw hm33x, ha2 0 0 hm34x]; exact hl
    refine W.eq (g2 := F0 m 32 ls []) (by first | rfl | simp only [ha2 6 nw hm33x, ha2 0 0 hm34x]) ?_
    refine lv_aload_n (pc := 32) hx hb dV_drawing_32 rfl (lv_at hl 1 rfl) ?_
    obtain ⟨q35, hq35, eq35⟩ := at_0 (ad := ad2) (ca := ca2) (σ := σ32) hm34
    refine va_get (D := (dC, dI)) (cl := kCl) (C := RV) (T := TV) (N := 9) (pc := 33) hx hb hts inV hown hK2.1 hP q35 eq35 rfl 2 (by decide) (hts _ wd_314) (fun _ h9 => h9) rfl dV_drawing_33 ?_
    refine lv_istore_n (pc := 36) hx hb dV_drawing_36 rfl hl (by decide) rfl (fun ls hl => ?_)
    have hl : lv_has ls 4 [(3, .int (xI σ32 102 0 0)), (2, .ref (ad2 6 nw)), (0, .ref (ad2 0 0)), (1, .int a1)] := hl
    refine lv_aload_n (pc := 37) hx hb dV_drawing_37 rfl (lv_at hl 2 rfl) ?_
    obtain ⟨q36, hq36, eq36⟩ := at_0 (ad := ad2) (ca := ca2) (σ := σ32) hm34
    refine va_get (D := (dC, dI)) (cl := kCl) (C := RV) (T := TV) (N := 9) (pc := 38) hx hb hts inV hown hK2.1 hP q36 eq36 rfl 1 (by decide) (hts _ wd_315) (fun _ h9 => h9) rfl dV_drawing_38 ?_
    refine lv_iload_n (pc := 41) hx hb dV_drawing_41 rfl (lv_at hl 0 rfl) ?_
    refine lv_aload_n (pc := 42) hx hb dV_drawing_42 rfl (lv_at hl 1 rfl) ?_
    obtain ⟨hv38, hf⟩ := ite_s hf
    obtain ⟨q39, hq39, eq39⟩ := at_9 (ad := ad2) (ca := ca2) (σ := σ32) (cm_0_1 hC hm34)
    obtain ⟨q40, hq40, eq40⟩ := at_6 (ad := ad2) (ca := ca2) (σ := σ32) hm33
    refine va_astq (D := (dC, dI)) (cl := kCl) (r := (RD, TD, 5)) (pc := 43) hx hb (hK2.2 9 0 (.object "DrawingVault$Drawing") (cm_0_1 hC hm34) rfl) hP hD hS q39 0 q40 6 eq39 rfl eq40 rfl (hv38) dV_drawing_43 (fun H locs hP hD hS => ?_)
    have hCn := cs_9 (j := 0) (k := ((xI σ32 102 0 0)).toNatClampNeg) (v := some nw) hC (fun _ z => Option.some.inj z ▸ hm33)
    obtain ⟨σ37, hσ37, hf⟩ := lt_9 hf
    obtain ⟨hP, hD⟩ := w9_rR 9 rfl hN2 hq39 hσ37 (pa_9) hP hD
    have hC : clo dom2 σ37.2.2 := by rw [hσ37]; exact hCn
    refine lv_aload_n (pc := 44) hx hb dV_drawing_44 rfl (lv_at hl 2 rfl) ?_
    refine lv_dup (pc := 45) hx hb dV_drawing_45 rfl ?_
    obtain ⟨q41, hq41, eq41⟩ := at_0 (ad := ad2) (ca := ca2) (σ := σ37) hm34
    refine va_get (D := (dC, dI)) (cl := kCl) (C := RV) (T := TV) (N := 9) (pc := 46) hx hb hts inV hown hK2.1 hP q41 eq41 rfl 2 (by decide) (hts _ wd_314) (fun _ h9 => h9) rfl dV_drawing_46 ?_
    refine lv_iconst (pc := 49) (v := 1) hx hb dV_drawing_49 (by decide) ?_
    refine lv_iadd (pc := 50) hx hb dV_drawing_50 ?_
    obtain ⟨q43, hq43, eq43⟩ := at_0 (ad := ad2) (ca := ca2) (σ := σ37) hm34
    refine va_put (D := (dC, dI)) (cl := kCl) (ci := 0) (v := .int ((xI σ37 102 0 0) + 1)) (ty := .int) (C := RV) (T := TV) (N := 9) (pc := 51) hx hb hts inV tyV tyV_ok nmV hown hK2.1 hP hD hS q43 eq43 rfl 2 (by decide) (hts _ wd_314) (fun _ h9 => h9) rfl (by decide +kernel) (rfl) (rfl) (Nat.le_of_ble_eq_true rfl) dV_drawing_51 (fun H locs hP hD hS => ?_)
    obtain ⟨σ42, hσ42, hf⟩ := lt_9 hf
    obtain ⟨hP, hD⟩ := w9_rI 102 rfl hN2 hq43 hσ42 (pu_102) hP hD
    have hC : clo dom2 σ42.2.2 := by rw [hσ42]; exact hC
    refine lv_aload_n (pc := 54) hx hb dV_drawing_54 rfl (lv_at hl 2 rfl) ?_
    refine lv_dup (pc := 55) hx hb dV_drawing_55 rfl ?_
    obtain ⟨q44, hq44, eq44⟩ := at_0 (ad := ad2) (ca := ca2) (σ := σ42) hm34
    refine va_get (D := (dC, dI)) (cl := kCl) (C := RV) (T := TV) (N := 9) (pc := 56) hx hb hts inV hown hK2.1 hP q44 eq44 rfl 3 (by decide) (hts _ wd_369) (fun _ h9 => h9) rfl dV_drawing_56 ?_
    refine lv_iconst (pc := 59) (v := 1) hx hb dV_drawing_59 (by decide) ?_
    refine lv_iadd (pc := 60) hx hb dV_drawing_60 ?_
    obtain ⟨q46, hq46, eq46⟩ := at_0 (ad := ad2) (ca := ca2) (σ := σ42) hm34
    refine va_put (D := (dC, dI)) (cl := kCl) (ci := 0) (v := .int ((xI σ42 103 0 0) + 1)) (ty := .int) (C := RV) (T := TV) (N := 9) (pc := 61) hx hb hts inV tyV tyV_ok nmV hown hK2.1 hP hD hS q46 eq46 rfl 3 (by decide) (hts _ wd_369) (fun _ h9 => h9) rfl (by decide +kernel) (rfl) (rfl) (Nat.le_of_ble_eq_true rfl) dV_drawing_61 (fun H locs hP hD hS => ?_)
    obtain ⟨σ45, hσ45, hf⟩ := lt_9 hf
    obtain ⟨hP, hD⟩ := w9_rI 103 rfl hN2 hq46 hσ45 (pu_103) hP hD
    have hC : clo dom2 σ45.2.2 := by rw [hσ45]; exact hC
    refine lv_aload_n (pc := 64) hx hb dV_drawing_64 rfl (lv_at hl 2 rfl) ?_
    refine lv_iconst (pc := 65) (v := 2) hx hb dV_drawing_65 (by decide) ?_
    obtain ⟨q47, hq47, eq47⟩ := at_0 (ad := ad2) (ca := ca2) (σ := σ45) hm34
    obtain ⟨⟨y48, σ49⟩, hy48, hf⟩ := ob hf
    have hFc := w9_free hD hS hA
    refine va_callv (pc := 66) (va_runV (As := [.int 2]) (rest := []) ⟨hx, hb, hml, hown, hts⟩ (t_V_finish l dC dI ad2 ca2 dom2 H.size n σ45 2 hm34 hN2 hC y48 σ49 hy48) (cwV 1 hts (gV wd_495 wd_496 wd_497 wd_254 wd_494) rfl rfl rfl (by decide +kernel) ⟨Nat.le_of_ble_eq_true rfl, Nat.le_of_ble_eq_true rfl⟩) ⟨hW_blind, va_recv (q := (RV, TV, 9)) (q0 := q47) (ci := 0) hK2.1 hP rfl eq47, hW_pre hP hK2 hD hG⟩ rfl rfl hl.1 rfl (lv_room (Nat.le_of_ble_eq_true rfl)) dV_drawing_66 ⟨Nat.le_of_ble_eq_true rfl, Nat.le_of_ble_eq_true rfl⟩) hS (fun q _ h => hFc q h) hFc (fun u t H1 locs ht hvm hr9 hB hz1 hk1 hS => ?_)
    obtain ⟨hP, hD, hC⟩ := hB
    rw [ht] at hP
    replace hD := hD.weaken (fun _ _ _ h => hFc _ h)
    generalize H1 = H at hP hS ⊢
    refine lv_iload_n (pc := 69) hx hb dV_drawing_69 rfl (lv_at hl 0 rfl) ?_
    obtain ⟨hg9, hf⟩ := ite_n hf
    obtain ⟨h8, h9⟩ := Prod.mk.inj (Option.some.inj hf)
    subst h9
    have h8 := Option.some.inj h8
    have hdE : dom2 = dm9 ρ dom (row6 nw ++ row7 (12 * nw)) := by rw [dm9_y (fun z => hg9 (h8.trans z))]; exact (by rw [hd2, hd1, List.append_assoc])
    rw [hdE] at hP hD hK2 hC hN2
    exact W.iret (pc := 70) hx hb hr (fun t ht hW => ⟨⟨_, (ad2, ca2), rfl, h8, hag2, by rw [ht]; exact hP, hD, hkt.moved hW.alike hK2, hC, hN2⟩, hS.F ht⟩) hS.2.2 dV_drawing_70
  · replace hf := ite_t h9 hf
    refine lv_iconst (pc := 17) (v := (-1)) hx hb dV_drawing_17 (by decide) ?_
    obtain ⟨h8, h9⟩ := Prod.mk.inj (Option.some.inj hf)
    subst h9
    have h8 := Option.some.inj h8
    refine W.widen (k := 15) (n := 95) (Nat.le_of_ble_eq_true rfl) (Nat.le_of_ble_eq_true rfl) ?_
    have hdE : dom = dm9 ρ dom (row6 nw ++ row7 (12 * nw)) := (dm9_n h8.symm).symm
    rw [hdE] at hP hD hK hC hN
    exact W.iret (pc := 18) hx hb hr (fun t ht hW => ⟨⟨_, (ad, ca), rfl, h8, (fun _ _ _ => rfl), by rw [ht]; exact hP, hD, hkt.moved hW.alike hK, hC, hN⟩, hS.F ht⟩) hS.2.2 dV_drawing_18
def V_checkIn (n : Nat) (σ : hT) (a1 : Int32) (a2 : Int32) (nw : Nat) : Option ((Option Int32) × hT) := Option.bind (V_needPower σ) fun ⟨y2o, σ3⟩ => ex9 y2o σ3 fun y2 => Option.bind (V_drawingAt σ3 a1) fun y5 => hq y5 (Option.bind (V_copyRefusal σ3 none a2) fun y10 => lt9 (α := Option ((Option Int32) × hT)) (Option.bind (V_mayWrite σ3 y10 0) fun ⟨y17o, σ18⟩ => ex9 y17o σ18 fun y17 => if y17 = 0 then some (some (-1), σ18) else none) fun x11 => if y10 = 0 then Option.bind (V_checkInRefusal n σ3 a1 none) fun y14 => none else x11) fun j8 => Option.bind (V_copyRefusal σ3 (some j8) a2) fun y22 => lt9 (α := hT → Int32 → Int32 → Option ((Option Int32) × hT)) (fun (σ24 : hT) (q25 : Int32) (q26 : Int32) => Option.bind (V_mayWrite σ24 q26 q25) fun ⟨y36o, σ37⟩ => ex9 y36o σ37 fun y36 => if y36 = 0 then some (some (-1), σ37) else Option.bind (D_addRevision σ37 j8 a2 nw) fun ⟨y40, σ41⟩ => Option.bind (D_endLoan n σ41 j8) fun ⟨y45, σ46⟩ => lt9 (sI σ46 103 0 0 ((xI σ46 103 0 0) + 1)) fun σ48 => Option.bind (V_finish n σ48 q25) fun ⟨y51, σ52⟩ => if (D_newest σ52 j8) = (-1) then none else some (some (D_newest σ52 j8), σ52)) fun x23 => if y22 = 0 then Option.bind (V_checkInRefusal n σ3 a1 (some j8)) fun y29 => Option.bind (K_sizeOf n σ3 (3 * j8)) fun ⟨y33, σ34⟩ => x23 (σ34) (2 + y33) y29 else x23 (σ3) 0 y22
set_option maxHeartbeats 4000000 in
set_option maxRecDepth 100000 in
theorem t_V_checkIn (l : Launch) (dC : Nat → ClassId) (dI : Nat → Nat → Nat) (ad : Nat → Nat → Nat) (ca : Nat → Nat → ClassId) (dom : List (Nat × Nat)) (sz : Nat) (n : Nat) (σ : hT) (a1 : Int32) (a2 : Int32) (nw : Nat) (hm0 : (0, 0) ∈ dom) (hfr7 : ∀ r ∈ row7 nw, r ∉ dom) (hN : dom.Nodup) (hC : clo dom σ.2.2) (ρ : Int32) (σ' : hT) (hf : V_checkIn n σ a1 a2 nw = some (some ρ, σ')) : Met l yV_checkIn (.code yV_checkIn cV_checkIn 6 (some .int) :: aw) ({ frames := 6, cells := 5, slots := 28, locals := 135 }) (hW (dC, dI) sz ad ca dom σ [.ref (ad 0 0), .int a1, .int a2]) (va_Qi (fun r (_ : ((Nat → Nat → Nat) × (Nat → Nat → ClassId))) => r = ρ) (fun u t => hBn (dC, dI) (va_A (w9 ad ca dom σ) sz) ad dom u.1 u.2 (dm9 ρ dom (row7 nw)) σ' t) (va_A (w9 ad ca dom σ) sz)) 5 28 (va_A (w9 ad ca dom σ) sz) := by
  refine Met.ofW (cc := cV_checkIn) (maxL := 6) (ret := (some .int)) (by decide) rfl ?_
  intro p e s m args below meth c s₁ B hml hv
  obtain ⟨rfl, hv⟩ := hv
  have hx := B.exec
  have hb := B.bytes
  have hr := B.returns
  have hts : ∀ w ∈ aw, w.before _ s = true := fun w h => atoms_spec (ws := (.code yV_checkIn cV_checkIn 6 (some .int) :: aw)) B.pre w (List.mem_cons_of_mem _ h)
  have hown : s.vm.findClass RV = some m.cls := findClass_of_methodNamed B.named
  have hlocks := B.notSynchronized
  obtain ⟨hsz, hP, hK, hD0, hG⟩ := hv
  subst hsz
  have hD := hD0.self (sz := s.heap.size)
  generalize hAe : va_A (w9 ad ca dom σ) s.heap.size = A at hD ⊢
  have hA : ∀ q : Nat, s.heap.size ≤ q → A q := fun q h => by rw [← hAe]; exact Or.inr h
  obtain ⟨H, hH⟩ : ∃ H, H = s.heap := ⟨_, rfl⟩
  have hS : va_S A s.heap H [] := by rw [hH]; exact va_S.rf
  rw [← hH] at hP ⊢
  unfold V_checkIn at hf
  have hl := lv_entry ([.ref (ad 0 0), .int a1, .int a2]) (n := 6) (Nat.le_of_ble_eq_true rfl)
  rw [lg_entry_eq]
  generalize (lg_sl ([.ref (ad 0 0), .int a1, .int a2]) ++ List.replicate (6 - (lg_sl ([.ref (ad 0 0), .int a1, .int a2])).length) Slot.unset).toArray = ls at hl ⊢
  have hl : lv_has ls 6 [(0, .ref (ad 0 0)), (1, .int a1), (2, .int a2)] := hl
  refine lv_aload_n (pc := 0) hx hb dV_checkIn_0 rfl (lv_at hl 0 rfl) ?_
  obtain ⟨q1, hq1, eq1⟩ := at_0 (ad := ad) (ca := ca) (σ := σ) hm0
  obtain ⟨⟨y2o, σ3⟩, hy2, hf⟩ := ob hf
  obtain ⟨y2, rfl⟩ : ∃ z, y2o = some z := by
    cases y2o with
    | none => exact (ex9_n hf).elim
    | some z => exact ⟨z, rfl⟩
  replace hf := ex9_s hf
  have hFc := w9_free hD hS hA
  refine va_callv (pc := 1) (va_runV (As := []) (rest := []) ⟨hx, hb, hml, hown, hts⟩ (t_V_needPower l dC dI ad ca dom H.size σ hm0 hN hC y2 σ3 hy2) (cwV 0 hts (gV wd_499 wd_500 wd_501 wd_254 wd_498) rfl rfl rfl (by decide +kernel) ⟨Nat.le_of_ble_eq_true rfl, Nat.le_of_ble_eq_true rfl⟩) ⟨hW_blind, va_recv (q := (RV, TV, 9)) (q0 := q1) (ci := 0) hK.1 hP rfl eq1, hW_pre hP hK hD hG⟩ rfl rfl hl.1 rfl (lv_room (Nat.le_of_ble_eq_true rfl)) dV_checkIn_1 ⟨Nat.le_of_ble_eq_true rfl, Nat.le_of_ble_eq_true rfl⟩) hS (fun q _ h => hFc q h) hFc (fun u t H1 locs ht hvm hr9 hB hz1 hk1 hS => ?_)
  obtain ⟨hP, hD, hC⟩ := hB
  rw [ht] at hP
  replace hD := hD.weaken (fun _ _ _ h => hFc _ h)
  generalize H1 = H at hP hS ⊢
  refine lv_aload_n (pc := 4) hx hb dV_checkIn_4 rfl (lv_at hl 0 rfl) ?_
  refine lv_iload_n (pc := 5) hx hb dV_checkIn_5 rfl (lv_at hl 1 rfl) ?_
  obtain ⟨q4, hq4, eq4⟩ := at_0 (ad := ad) (ca := ca) (σ := σ3) hm0
  obtain ⟨y5, hy5, hf⟩ := ob hf
  refine va_cse (pc := 6) (W.runV (As := [.int a1]) (rest := []) ⟨hx, hb, hml, hown, hts⟩ (t_V_drawingAt l dC dI ad ca dom σ3 a1 hm0 hN hC y5 hy5) (cwV 1 hts (gV wd_317 wd_318 wd_319 wd_254 wd_316) rfl rfl rfl (by decide +kernel) ⟨Nat.le_of_ble_eq_true rfl, Nat.le_of_ble_eq_true rfl⟩) ⟨hR_blind, va_recv (q := (RV, TV, 9)) (q0 := q4) (ci := 0) hK.1 hP rfl eq4, hR_pre hP hK hG⟩ rfl rfl hl.1 rfl (lv_room (Nat.le_of_ble_eq_true rfl)) dV_checkIn_6 ⟨Nat.le_of_ble_eq_true rfl, Nat.le_of_ble_eq_true rfl⟩) (fun r9 hr9 => ?_)
  obtain ⟨hr9, hmy6⟩ := hr9
  refine W.eq (g2 := F0 m 9 ls [va_re (ad 6) y5]) (by rw [hr9]) ?_
  rcases hE7 : y5 with _ | j8
  · replace hf := hq_n hE7 hf
    refine W.eq (g2 := F0 m 9 ls [.null]) rfl ?_
    refine lv_astore_nN (pc := 9) hx hb dV_checkIn_9 rfl hl (by decide) rfl (fun ls hl => ?_)
    have hl : lv_has ls 6 [(3, .null), (0, .ref (ad 0 0)), (1, .int a1), (2, .int a2)] := hl
    refine lv_aload_n (pc := 10) hx hb dV_checkIn_10 rfl (lv_at hl 1 rfl) ?_
    refine lv_aload_nN (pc := 11) hx hb dV_checkIn_11 rfl (lv_at hl 0 rfl) ?_
    refine lv_iload_n (pc := 12) hx hb dV_checkIn_12 rfl (lv_at hl 3 rfl) ?_
    obtain ⟨q9, hq9, eq9⟩ := at_0 (ad := ad) (ca := ca) (σ := σ3) hm0
    obtain ⟨y10, hy10, hf⟩ := ob hf
    refine vp_callSi (pc := 13) (W.runV (As := [.null, .int a2]) (rest := []) ⟨hx, hb, hml, hown, hts⟩ (t_V_copyRefusal l dC dI ad ca dom σ3 none a2 hm0 (fun _ z => nomatch z) hN hC y10 hy10) (cwV 2 hts (gV wd_511 wd_512 wd_513 wd_254 wd_510) rfl rfl rfl (by decide +kernel) ⟨Nat.le_of_ble_eq_true rfl, Nat.le_of_ble_eq_true rfl⟩) ⟨hR_blind, va_recv (q := (RV, TV, 9)) (q0 := q9) (ci := 0) hK.1 hP rfl eq9, hR_pre hP hK hG⟩ rfl rfl hl.1 rfl (lv_room (Nat.le_of_ble_eq_true rfl)) dV_checkIn_13 ⟨Nat.le_of_ble_eq_true rfl, Nat.le_of_ble_eq_true rfl⟩) (fun r9 hr9 => ?_)
    refine W.eq (g2 := F0 m 16 ls [.int y10]) (by rw [hr9]) ?_
    refine lv_istore (pc := 16) hx hb dV_checkIn_16 hl (by decide) rfl (fun ls hl => ?_)
    have hl : lv_has ls 6 [(4, .int y10), (3, .null), (0, .ref (ad 0 0)), (1, .int a1), (2, .int a2)] := hl
    refine lv_iconst (pc := 18) (v := 0) hx hb dV_checkIn_18 (by decide) ?_
    refine lv_istore (pc := 19) hx hb dV_checkIn_19 hl (by decide) rfl (fun ls hl => ?_)
    have hl : lv_has ls 6 [(5, .int 0), (4, .int y10), (3, .null), (0, .ref (ad 0 0)), (1, .int a1), (2, .int a2)] := hl
    refine lv_iload (pc := 21) hx hb dV_checkIn_21 (lv_at hl 1 rfl) ?_
    obtain ⟨x11, hx11, hf⟩ := lt_9 hf
    refine jnF (τ := (Heap) × (List Loc) × (Array Slot)) (fun pc st z => W p l e _ s m _ below meth c z.1 z.2.1 0 0 _ (F0 m pc z.2.2 st)) (pc0 := 23) (st0 := [.int y10]) (z0 := (H, _, ls)) 49 (fun z => []) (fun z => va_P (dC, dI) kCl (w9 ad ca dom (σ3)) z.1 ∧ va_D A (w9 ad ca dom (σ3)) ∧ va_S A s.heap z.1 z.2.1 ∧ lv_has z.2.2 6 [(5, .int 0), (4, .int y10), (3, .null), (0, .ref (ad 0 0)), (1, .int a1), (2, .int a2)]) (fun z => x11) (some ρ, σ') ?_ ?_
    · intro hJx11
      dsimp only at hJx11 ⊢
      refine lv_if_ne (pc := 23) (tgt := 49) hx hb dV_checkIn_23 rfl (fun h12 => ?_) (fun h12 => ?_)
      · replace hf := ite_f h12 hf
        have hl := lv_sub hl (l' := [(5, .int 0), (4, .int y10), (3, .null), (0, .ref (ad 0 0)), (1, .int a1), (2, .int a2)]) [0, 1, 2, 3, 4, 5] rfl
        exact hJx11 (H, _, ls) ⟨hP, hD, hS, hl⟩ hf
      · replace hf := ite_t h12 hf
        refine lv_aload_n (pc := 26) hx hb dV_checkIn_26 rfl (lv_at hl 3 rfl) ?_
        refine lv_iload_n (pc := 27) hx hb dV_checkIn_27 rfl (lv_at hl 4 rfl) ?_
        refine lv_aload_nN (pc := 28) hx hb dV_checkIn_28 rfl (lv_at hl 2 rfl) ?_
        obtain ⟨q13, hq13, eq13⟩ := at_0 (ad := ad) (ca := ca) (σ := σ3) hm0
        obtain ⟨y14, hy14, hf⟩ := ob hf
        refine vp_callSi (pc := 29) (W.runV (As := [.int a1, .null]) (rest := []) ⟨hx, hb, hml, hown, hts⟩ (t_V_checkInRefusal l dC dI ad ca dom n σ3 a1 none hm0 (fun _ z => nomatch z) hN hC y14 hy14) (cwV 2 hts (gV wd_693 wd_694 wd_695 wd_254 wd_692) rfl rfl rfl (by decide +kernel) ⟨Nat.le_of_ble_eq_true rfl, Nat.le_of_ble_eq_true rfl⟩) ⟨hR_blind, va_recv (q := (RV, TV, 9)) (q0 := q13) (ci := 0) hK.1 hP rfl eq13, hR_pre hP hK hG⟩ rfl rfl hl.1 rfl (lv_room (Nat.le_of_ble_eq_true rfl)) dV_checkIn_29 ⟨Nat.le_of_ble_eq_true rfl, Nat.le_of_ble_eq_true rfl⟩) (fun r9 hr9 => ?_)
        refine W.eq (g2 := F0 m 32 ls [.int y14]) (by rw [hr9]) ?_
        refine lv_istore (pc := 32) hx hb dV_checkIn_32 hl (by decide) rfl (fun ls hl => ?_)
        have hl : lv_has ls 6 [(4, .int y14), (5, .int 0), (3, .null), (0, .ref (ad 0 0)), (1, .int a1), (2, .int a2)] := hl
        refine lv_iconst (pc := 34) (v := 2) hx hb dV_checkIn_34 (by decide) ?_
        refine lv_aload_n (pc := 35) hx hb dV_checkIn_35 rfl (lv_at hl 3 rfl) ?_
        obtain ⟨q15, hq15, eq15⟩ := at_0 (ad := ad) (ca := ca) (σ := σ3) hm0
        refine va_get (D := (dC, dI)) (cl := kCl) (C := RV) (T := TV) (N := 9) (pc := 36) hx hb hts inV hown hK.1 hP q15 eq15 rfl 6 (by decide) (hts _ wd_360) (fun _ h9 => h9) rfl dV_checkIn_36 ?_
        refine lv_aload_nN (pc := 39) hx hb dV_checkIn_39 rfl (lv_at hl 2 rfl) ?_
        exact nomatch hf
    · rintro ⟨H, locs, ls⟩ ⟨hP, hD, hS, hl⟩ hf
      dsimp only at hP hD hS hl hf ⊢
      rw [hx11] at hf
      have hl : lv_has ls 6 [(5, .int 0), (4, .int y10), (3, .null), (0, .ref (ad 0 0)), (1, .int a1), (2, .int a2)] := hl
      refine lv_aload_n (pc := 49) hx hb dV_checkIn_49 rfl (lv_at hl 3 rfl) ?_
      refine lv_iload (pc := 50) hx hb dV_checkIn_50 (lv_at hl 1 rfl) ?_
      refine lv_iload (pc := 52) hx hb dV_checkIn_52 (lv_at hl 0 rfl) ?_
      obtain ⟨q16, hq16, eq16⟩ := at_0 (ad := ad) (ca := ca) (σ := σ3) hm0
      obtain ⟨⟨y17o, σ18⟩, hy17, hf⟩ := ob hf
      obtain ⟨y17, rfl⟩ : ∃ z, y17o = some z := by
        cases y17o with
        | none => exact (ex9_n hf).elim
        | some z => exact ⟨z, rfl⟩
      replace hf := ex9_s hf
      have hFc := w9_free hD hS hA
      refine va_calli (pc := 54) (va_runV (As := [.int y10, .int 0]) (rest := []) ⟨hx, hb, hml, hown, hts⟩ (t_V_mayWrite l dC dI ad ca dom H.size σ3 y10 0 hm0 hN hC y17 σ18 hy17) (cwV 2 hts (gV wd_491 wd_492 wd_493 wd_254 wd_490) rfl rfl rfl (by decide +kernel) ⟨Nat.le_of_ble_eq_true rfl, Nat.le_of_ble_eq_true rfl⟩) ⟨hW_blind, va_recv (q := (RV, TV, 9)) (q0 := q16) (ci := 0) hK.1 hP rfl eq16, hW_pre hP hK hD hG⟩ rfl rfl hl.1 rfl (lv_room (Nat.le_of_ble_eq_true rfl)) dV_checkIn_54 ⟨Nat.le_of_ble_eq_true rfl, Nat.le_of_ble_eq_true rfl⟩) hS (fun q _ h => hFc q h) hFc (fun r9 u t H1 locs ht hvm hr9 hB hz1 hk1 hS => ?_)
      obtain ⟨hP, hD, hC⟩ := hB
      rw [ht] at hP
      replace hD := hD.weaken (fun _ _ _ h => hFc _ h)
      generalize H1 = H at hP hS ⊢
      refine W.eq (g2 := F0 m 57 ls [.int y17]) (by rw [hr9]) ?_
      refine lv_if_ne (pc := 57) (tgt := 62) hx hb dV_checkIn_57 rfl (fun h19 => ?_) (fun h19 => ?_)
      · replace hf := ite_f h19 hf
        refine lv_aload_nN (pc := 62) hx hb dV_checkIn_62 rfl (lv_at hl 2 rfl) ?_
        refine lv_iload_n (pc := 63) hx hb dV_checkIn_63 rfl (lv_at hl 5 rfl) ?_
        exact nomatch hf
      · replace hf := ite_t h19 hf
        refine lv_iconst (pc := 60) (v := (-1)) hx hb dV_checkIn_60 (by decide) ?_
        obtain ⟨h8, h9⟩ := Prod.mk.inj (Option.some.inj hf)
        subst h9
        have h8 := Option.some.inj h8
        refine W.widen (k := 5) (n := 28) (Nat.le_of_ble_eq_true rfl) (Nat.le_of_ble_eq_true rfl) ?_
        have hdE : dom = dm9 ρ dom (row7 nw) := (dm9_n h8.symm).symm
        rw [hdE] at hP hD hK hC hN
        exact W.iret (pc := 61) hx hb hr (fun t ht hW => ⟨⟨_, (ad, ca), rfl, h8, (fun _ _ _ => rfl), by rw [ht]; exact hP, hD, hkt.moved hW.alike hK, hC, hN⟩, hS.F ht⟩) hS.2.2 dV_checkIn_61
  · replace hf := hq_s hE7 hf
    have hm20 : (6, j8) ∈ dom := (hmy6 _ hE7)
    refine W.eq (g2 := F0 m 9 ls [.ref (ad 6 j8)]) rfl ?_
    refine lv_astore_n (pc := 9) hx hb dV_checkIn_9 rfl hl (by decide) rfl (fun ls hl => ?_)
    have hl : lv_has ls 6 [(3, .ref (ad 6 j8)), (0, .ref (ad 0 0)), (1, .int a1), (2, .int a2)] := hl
    refine lv_aload_n (pc := 10) hx hb dV_checkIn_10 rfl (lv_at hl 1 rfl) ?_
    refine lv_aload_n (pc := 11) hx hb dV_checkIn_11 rfl (lv_at hl 0 rfl) ?_
    refine lv_iload_n (pc := 12) hx hb dV_checkIn_12 rfl (lv_at hl 3 rfl) ?_
    obtain ⟨q21, hq21, eq21⟩ := at_0 (ad := ad) (ca := ca) (σ := σ3) hm0
    obtain ⟨y22, hy22, hf⟩ := ob hf
    refine vp_callSi (pc := 13) (W.runV (As := [.ref (ad 6 j8), .int a2]) (rest := []) ⟨hx, hb, hml, hown, hts⟩ (t_V_copyRefusal l dC dI ad ca dom σ3 (some j8) a2 hm0 (fun _ z => Option.some.inj z ▸ hm20) hN hC y22 hy22) (cwV 2 hts (gV wd_511 wd_512 wd_513 wd_254 wd_510) rfl rfl rfl (by decide +kernel) ⟨Nat.le_of_ble_eq_true rfl, Nat.le_of_ble_eq_true rfl⟩) ⟨hR_blind, va_recv (q := (RV, TV, 9)) (q0 := q21) (ci := 0) hK.1 hP rfl eq21, hR_pre hP hK hG⟩ rfl rfl hl.1 rfl (lv_room (Nat.le_of_ble_eq_true rfl)) dV_checkIn_13 ⟨Nat.le_of_ble_eq_true rfl, Nat.le_of_ble_eq_true rfl⟩) (fun r9 hr9 => ?_)
    refine W.eq (g2 := F0 m 16 ls [.int y22]) (by rw [hr9]) ?_
    refine lv_istore (pc := 16) hx hb dV_checkIn_16 hl (by decide) rfl (fun ls hl => ?_)
    have hl : lv_has ls 6 [(4, .int y22), (3, .ref (ad 6 j8)), (0, .ref (ad 0 0)), (1, .int a1), (2, .int a2)] := hl
    refine lv_iconst (pc := 18) (v := 0) hx hb dV_checkIn_18 (by decide) ?_
    refine lv_istore (pc := 19) hx hb dV_checkIn_19 hl (by decide) rfl (fun ls hl => ?_)
    have hl : lv_has ls 6 [(5, .int 0), (4, .int y22), (3, .ref (ad 6 j8)), (0, .ref (ad 0 0)), (1, .int a1), (2, .int a2)] := hl
    refine lv_iload (pc := 21) hx hb dV_checkIn_21 (lv_at hl 1 rfl) ?_
    obtain ⟨x23, hx23, hf⟩ := lt_9 hf
    refine jnF (τ := (hT) × (Int32) × (Int32) × (Heap) × (List Loc) × (Array Slot)) (fun pc st z => W p l e _ s m _ below meth c z.2.2.2.1 z.2.2.2.2.1 0 0 _ (F0 m pc z.2.2.2.2.2 st)) (pc0 := 23) (st0 := [.int y22]) (z0 := (σ3, 0, 0, H, _, ls)) 49 (fun z => []) (fun z => va_P (dC, dI) kCl (w9 ad ca dom z.1) z.2.2.2.1 ∧ va_D A (w9 ad ca dom z.1) ∧ va_S A s.heap z.2.2.2.1 z.2.2.2.2.1 ∧ clo dom z.1.2.2 ∧ lv_has z.2.2.2.2.2 6 [(5, .int z.2.1), (4, .int z.2.2.1), (3, .ref (ad 6 j8)), (0, .ref (ad 0 0)), (1, .int a1), (2, .int a2)]) (fun z => x23 z.1 z.2.1 z.2.2.1) (some ρ, σ') ?_ ?_
    · intro hJx23
      dsimp only at hJx23 ⊢
      refine lv_if_ne (pc := 23) (tgt := 49) hx hb dV_checkIn_23 rfl (fun h27 => ?_) (fun h27 => ?_)
      · replace hf := ite_f h27 hf
        have hl := lv_sub hl (l' := [(5, .int 0), (4, .int y22), (3, .ref (ad 6 j8)), (0, .ref (ad 0 0)), (1, .int a1), (2, .int a2)]) [0, 1, 2, 3, 4, 5] rfl
        exact hJx23 (σ3, 0, y22, H, _, ls) ⟨hP, hD, hS, hC, hl⟩ hf
      · replace hf := ite_t h27 hf
        refine lv_aload_n (pc := 26) hx hb dV_checkIn_26 rfl (lv_at hl 3 rfl) ?_
        refine lv_iload_n (pc := 27) hx hb dV_checkIn_27 rfl (lv_at hl 4 rfl) ?_
        refine lv_aload_n (pc := 28) hx hb dV_checkIn_28 rfl (lv_at hl 2 rfl) ?_
        obtain ⟨q28, hq28, eq28⟩ := at_0 (ad := ad) (ca := ca) (σ := σ3) hm0
        obtain ⟨y29, hy29, hf⟩ := ob hf
        refine vp_callSi (pc := 29) (W.runV (As := [.int a1, .ref (ad 6 j8)]) (rest := []) ⟨hx, hb, hml, hown, hts⟩ (t_V_checkInRefusal l dC dI ad ca dom n σ3 a1 (some j8) hm0 (fun _ z => Option.some.inj z ▸ hm20) hN hC y29 hy29) (cwV 2 hts (gV wd_693 wd_694 wd_695 wd_254 wd_692) rfl rfl rfl (by decide +kernel) ⟨Nat.le_of_ble_eq_true rfl, Nat.le_of_ble_eq_true rfl⟩) ⟨hR_blind, va_recv (q := (RV, TV, 9)) (q0 := q28) (ci := 0) hK.1 hP rfl eq28, hR_pre hP hK hG⟩ rfl rfl hl.1 rfl (lv_room (Nat.le_of_ble_eq_true rfl)) dV_checkIn_29 ⟨Nat.le_of_ble_eq_true rfl, Nat.le_of_ble_eq_true rfl⟩) (fun r9 hr9 => ?_)
        refine W.eq (g2 := F0 m 32 ls [.int y29]) (by rw [hr9]) ?_
        refine lv_istore (pc := 32) hx hb dV_checkIn_32 hl (by decide) rfl (fun ls hl => ?_)
        have hl : lv_has ls 6 [(4, .int y29), (5, .int 0), (3, .ref (ad 6 j8)), (0, .ref (ad 0 0)), (1, .int a1), (2, .int a2)] := hl
        refine lv_iconst (pc := 34) (v := 2) hx hb dV_checkIn_34 (by decide) ?_
        refine lv_aload_n (pc := 35) hx hb dV_checkIn_35 rfl (lv_at hl 3 rfl) ?_
        obtain ⟨q30, hq30, eq30⟩ := at_0 (ad := ad) (ca := ca) (σ := σ3) hm0
        refine va_get (D := (dC, dI)) (cl := kCl) (C := RV) (T := TV) (N := 9) (pc := 36) hx hb hts inV hown hK.1 hP q30 eq30 rfl 6 (by decide) (hts _ wd_360) (fun _ h9 => h9) rfl dV_checkIn_36 ?_
        refine lv_aload_n (pc := 39) hx hb dV_checkIn_39 rfl (lv_at hl 2 rfl) ?_
        obtain ⟨q31, hq31, eq31⟩ := at_6 (ad := ad) (ca := ca) (σ := σ3) hm20
        refine va_get (D := (dC, dI)) (cl := kCl) (C := RD) (T := TD) (N := 5) (pc := 40) hx hb hts inD hown hK.1 hP q31 eq31 rfl 3 (by decide) (hts _ wd_368) (fun _ h9 => h9) rfl dV_checkIn_40 ?_
        obtain ⟨q32, hq32, eq32⟩ := at_2 (ad := ad) (ca := ca) (σ := σ3) (cm_0_6 hC hm0)
        obtain ⟨⟨y33, σ34⟩, hy33, hf⟩ := ob hf
        have hFc := w9_free hD hS hA
        refine va_calli (pc := 43) (va_runV (As := [.ref (ad 5 (3 * j8))]) (rest := [.int 2]) ⟨hx, hb, hml, hown, hts⟩ (t_K_sizeOf l dC dI ad ca dom H.size n σ3 (3 * j8) (cm_0_6 hC hm0) (cm_6_3 hC hm20) hN hC y33 σ34 hy33) (cwV 1 hts (gV wd_565 wd_566 wd_567 wd_275 wd_564) rfl rfl rfl (by decide +kernel) ⟨Nat.le_of_ble_eq_true rfl, Nat.le_of_ble_eq_true rfl⟩) ⟨hW_blind, va_recv (q := (RK, TK, 3)) (q0 := q32) (ci := 2) hK.1 hP rfl eq32, hW_pre hP hK hD hG⟩ rfl rfl hl.1 rfl (lv_room (Nat.le_of_ble_eq_true rfl)) dV_checkIn_43 ⟨Nat.le_of_ble_eq_true rfl, Nat.le_of_ble_eq_true rfl⟩) hS (fun q _ h => hFc q h) hFc (fun r9 u t H1 locs ht hvm hr9 hB hz1 hk1 hS => ?_)
        obtain ⟨hP, hD, hC⟩ := hB
        rw [ht] at hP
        replace hD := hD.weaken (fun _ _ _ h => hFc _ h)
        generalize H1 = H at hP hS ⊢
        refine W.eq (g2 := F0 m 46 ls [.int y33, .int 2]) (by rw [hr9]) ?_
        refine lv_iadd (pc := 46) hx hb dV_checkIn_46 ?_
        refine lv_istore (pc := 47) hx hb dV_checkIn_47 hl (by decide) rfl (fun ls hl => ?_)
        have hl : lv_has ls 6 [(5, .int (2 + y33)), (4, .int y29), (3, .ref (ad 6 j8)), (0, .ref (ad 0 0)), (1, .int a1), (2, .int a2)] := hl
        have hl := lv_sub hl (l' := [(5, .int (2 + y33)), (4, .int y29), (3, .ref (ad 6 j8)), (0, .ref (ad 0 0)), (1, .int a1), (2, .int a2)]) [0, 1, 2, 3, 4, 5] rfl
        exact hJx23 (σ34, (2 + y33), y29, H, _, ls) ⟨hP, hD, hS, hC, hl⟩ hf
    · rintro ⟨σ24, q25, q26, H, locs, ls⟩ ⟨hP, hD, hS, hC, hl⟩ hf
      dsimp only at hP hD hS hC hl hf ⊢
      rw [hx23] at hf
      have hl : lv_has ls 6 [(5, .int q25), (4, .int q26), (3, .ref (ad 6 j8)), (0, .ref (ad 0 0)), (1, .int a1), (2, .int a2)] := hl
      refine lv_aload_n (pc := 49) hx hb dV_checkIn_49 rfl (lv_at hl 3 rfl) ?_
      refine lv_iload (pc := 50) hx hb dV_checkIn_50 (lv_at hl 1 rfl) ?_
      refine lv_iload (pc := 52) hx hb dV_checkIn_52 (lv_at hl 0 rfl) ?_
      obtain ⟨q35, hq35, eq35⟩ := at_0 (ad := ad) (ca := ca) (σ := σ24) hm0
      obtain ⟨⟨y36o, σ37⟩, hy36, hf⟩ := ob hf
      obtain ⟨y36, rfl⟩ : ∃ z, y36o = some z := by
        cases y36o with
        | none => exact (ex9_n hf).elim
        | some z => exact ⟨z, rfl⟩
      replace hf := ex9_s hf
      have hFc := w9_free hD hS hA
      refine va_calli (pc := 54) (va_runV (As := [.int q26, .int q25]) (rest := []) ⟨hx, hb, hml, hown, hts⟩ (t_V_mayWrite l dC dI ad ca dom H.size σ24 q26 q25 hm0 hN hC y36 σ37 hy36) (cwV 2 hts (gV wd_491 wd_492 wd_493 wd_254 wd_490) rfl rfl rfl (by decide +kernel) ⟨Nat.le_of_ble_eq_true rfl, Nat.le_of_ble_eq_true rfl⟩) ⟨hW_blind, va_recv (q := (RV, TV, 9)) (q0 := q35) (ci := 0) hK.1 hP rfl eq35, hW_pre hP hK hD hG⟩ rfl rfl hl.1 rfl (lv_room (Nat.le_of_ble_eq_true rfl)) dV_checkIn_54 ⟨Nat.le_of_ble_eq_true rfl, Nat.le_of_ble_eq_true rfl⟩) hS (fun q _ h => hFc q h) hFc (fun r9 u t H1 locs ht hvm hr9 hB hz1 hk1 hS => ?_)
      obtain ⟨hP, hD, hC⟩ := hB
      rw [ht] at hP
      replace hD := hD.weaken (fun _ _ _ h => hFc _ h)
      generalize H1 = H at hP hS ⊢
      refine W.eq (g2 := F0 m 57 ls [.int y36]) (by rw [hr9]) ?_
      refine lv_if_ne (pc := 57) (tgt := 62) hx hb dV_checkIn_57 rfl (fun h38 => ?_) (fun h38 => ?_)
      · replace hf := ite_f h38 hf
        refine lv_aload_n (pc := 62) hx hb dV_checkIn_62 rfl (lv_at hl 2 rfl) ?_
        refine lv_iload_n (pc := 63) hx hb dV_checkIn_63 rfl (lv_at hl 5 rfl) ?_
        obtain ⟨q39, hq39, eq39⟩ := at_6 (ad := ad) (ca := ca) (σ := σ37) hm20
        obtain ⟨⟨y40, σ41⟩, hy40, hf⟩ := ob hf
        have hFc := w9_free hD hS hA
        refine va_callv (pc := 64) (va_runV (As := [.int a2]) (rest := []) ⟨hx, hb, hml, hown, hts⟩ (t_D_addRevision l dC dI ad ca dom H.size σ37 j8 a2 nw hm20 hfr7 hN hC y40 σ41 hy40) (cwV 1 hts (gV wd_689 wd_690 wd_691 wd_292 wd_688) rfl rfl rfl (by decide +kernel) ⟨Nat.le_of_ble_eq_true rfl, Nat.le_of_ble_eq_true rfl⟩) ⟨hW_blind, va_recv (q := (RD, TD, 5)) (q0 := q39) (ci := 6) hK.1 hP rfl eq39, hW_pre hP hK hD hG⟩ rfl rfl hl.1 rfl (lv_room (Nat.le_of_ble_eq_true rfl)) dV_checkIn_64 ⟨Nat.le_of_ble_eq_true rfl, Nat.le_of_ble_eq_true rfl⟩) hS (fun q _ h => hFc q h) hFc (fun u t H1 locs ht hvm hr9 hB hz1 hk1 hS => ?_)
        have hCo := hC
        obtain ⟨ad1, ca1⟩ := u
        obtain ⟨ha1, hP, hD, hKn, hC, hN1⟩ := hB
        dsimp only at ha1 hP hD hKn
        rw [ht] at hP
        replace hD := hD.weaken (fun _ _ _ h => hFc _ h)
        have hK1 := hkt.moved hvm.symm hKn
        generalize H1 = H at hP hS ⊢
        refine W.widen (k := 5) (n := 28) (Nat.le_of_ble_eq_true rfl) (Nat.le_of_ble_eq_true rfl) ?_
        obtain ⟨dom1, hd1⟩ : ∃ d, d = dom ++ row7 nw := ⟨_, rfl⟩
        rw [← hd1] at hP hD hK1 hC hN1
        have hdm1 : ∀ r, r ∈ dom → r ∈ dom1 := fun r h => by rw [hd1]; exact List.mem_append_left _ h
        have hag1 : ∀ κ j, (κ, j) ∈ dom → ad1 κ j = ad κ j := ha1
        have hdo1 : ∀ r, r ∈ dom → r ∈ dom1 := hdm1
        have hm42x := hm20
        have hm42 : (6, j8) ∈ dom1 := hdm1 _ hm42x
        have hm43x := hm0
        have hm43 : (0, 0) ∈ dom1 := hdm1 _ hm43x
        have hl : lv_has ls 6 [(5, .int q25), (4, .int q26), (3, .ref (ad1 6 j8)), (0, .ref (ad1 0 0)), (1, .int a1), (2, .int a2)] := by simp only [ha1 6 j8 hm42x, ha1 0 0 hm43x]; exact hl
        refine W.eq (g2 := F0 m 67 ls []) (by first | rfl | simp only [ha1 6 j8 hm42x, ha1 0 0 hm43x]) ?_
        refine lv_aload_n (pc := 67) hx hb dV_checkIn_67 rfl (lv_at hl 2 rfl) ?_
        obtain ⟨q44, hq44, eq44⟩ := at_6 (ad := ad1) (ca := ca1) (σ := σ41) hm42
        obtain ⟨⟨y45, σ46⟩, hy45, hf⟩ := ob hf
        have hFc := w9_free hD hS hA
        refine va_callv (pc := 68) (va_runV (As := []) (rest := []) ⟨hx, hb, hml, hown, hts⟩ (t_D_endLoan l dC dI ad1 ca1 dom1 H.size n σ41 j8 hm42 hN1 hC y45 σ46 hy45) (cwV 0 hts (gV wd_515 wd_516 wd_517 wd_292 wd_514) rfl rfl rfl (by decide +kernel) ⟨Nat.le_of_ble_eq_true rfl, Nat.le_of_ble_eq_true rfl⟩) ⟨hW_blind, va_recv (q := (RD, TD, 5)) (q0 := q44) (ci := 6) hK1.1 hP rfl eq44, hW_pre hP hK1 hD hG⟩ rfl rfl hl.1 rfl (lv_room (Nat.le_of_ble_eq_true rfl)) dV_checkIn_68 ⟨Nat.le_of_ble_eq_true rfl, Nat.le_of_ble_eq_true rfl⟩) hS (fun q _ h => hFc q h) hFc (fun u t H1 locs ht hvm hr9 hB hz1 hk1 hS => ?_)
        obtain ⟨hP, hD, hC⟩ := hB
        rw [ht] at hP
        replace hD := hD.weaken (fun _ _ _ h => hFc _ h)
        generalize H1 = H at hP hS ⊢
        refine lv_aload_n (pc := 71) hx hb dV_checkIn_71 rfl (lv_at hl 3 rfl) ?_
        refine lv_dup (pc := 72) hx hb dV_checkIn_72 rfl ?_
        obtain ⟨q47, hq47, eq47⟩ := at_0 (ad := ad1) (ca := ca1) (σ := σ46) hm43
        refine va_get (D := (dC, dI)) (cl := kCl) (C := RV) (T := TV) (N := 9) (pc := 73) hx hb hts inV hown hK1.1 hP q47 eq47 rfl 3 (by decide) (hts _ wd_369) (fun _ h9 => h9) rfl dV_checkIn_73 ?_
        refine lv_iconst (pc := 76) (v := 1) hx hb dV_checkIn_76 (by decide) ?_
        refine lv_iadd (pc := 77) hx hb dV_checkIn_77 ?_
        obtain ⟨q49, hq49, eq49⟩ := at_0 (ad := ad1) (ca := ca1) (σ := σ46) hm43
        refine va_put (D := (dC, dI)) (cl := kCl) (ci := 0) (v := .int ((xI σ46 103 0 0) + 1)) (ty := .int) (C := RV) (T := TV) (N := 9) (pc := 78) hx hb hts inV tyV tyV_ok nmV hown hK1.1 hP hD hS q49 eq49 rfl 3 (by decide) (hts _ wd_369) (fun _ h9 => h9) rfl (by decide +kernel) (rfl) (rfl) (Nat.le_of_ble_eq_true rfl) dV_checkIn_78 (fun H locs hP hD hS => ?_)
        obtain ⟨σ48, hσ48, hf⟩ := lt_9 hf
        obtain ⟨hP, hD⟩ := w9_rI 103 rfl hN1 hq49 hσ48 (pu_103) hP hD
        have hC : clo dom1 σ48.2.2 := by rw [hσ48]; exact hC
        refine lv_aload_n (pc := 81) hx hb dV_checkIn_81 rfl (lv_at hl 3 rfl) ?_
        refine lv_iload (pc := 82) hx hb dV_checkIn_82 (lv_at hl 0 rfl) ?_
        obtain ⟨q50, hq50, eq50⟩ := at_0 (ad := ad1) (ca := ca1) (σ := σ48) hm43
        obtain ⟨⟨y51, σ52⟩, hy51, hf⟩ := ob hf
        have hFc := w9_free hD hS hA
        refine va_callv (pc := 84) (va_runV (As := [.int q25]) (rest := []) ⟨hx, hb, hml, hown, hts⟩ (t_V_finish l dC dI ad1 ca1 dom1 H.size n σ48 q25 hm43 hN1 hC y51 σ52 hy51) (cwV 1 hts (gV wd_495 wd_496 wd_497 wd_254 wd_494) rfl rfl rfl (by decide +kernel) ⟨Nat.le_of_ble_eq_true rfl, Nat.le_of_ble_eq_true rfl⟩) ⟨hW_blind, va_recv (q := (RV, TV, 9)) (q0 := q50) (ci := 0) hK1.1 hP rfl eq50, hW_pre hP hK1 hD hG⟩ rfl rfl hl.1 rfl (lv_room (Nat.le_of_ble_eq_true rfl)) dV_checkIn_84 ⟨Nat.le_of_ble_eq_true rfl, Nat.le_of_ble_eq_true rfl⟩) hS (fun q _ h => hFc q h) hFc (fun u t H1 locs ht hvm hr9 hB hz1 hk1 hS => ?_)
        obtain ⟨hP, hD, hC⟩ := hB
        rw [ht] at hP
        replace hD := hD.weaken (fun _ _ _ h => hFc _ h)
        generalize H1 = H at hP hS ⊢
        refine lv_aload_n (pc := 87) hx hb dV_checkIn_87 rfl (lv_at hl 2 rfl) ?_
        obtain ⟨q53, hq53, eq53⟩ := at_6 (ad := ad1) (ca := ca1) (σ := σ52) hm42
        refine vp_callSi (pc := 88) (W.runV (As := []) (rest := []) ⟨hx, hb, hml, hown, hts⟩ (t_D_newest l dC dI ad1 ca1 dom1 σ52 j8 hm42 hN1 hC (D_newest σ52 j8) rfl) (cwV 0 hts (gV wd_413 wd_290 wd_291 wd_292 wd_288) rfl rfl rfl (by decide +kernel) ⟨Nat.le_of_ble_eq_true rfl, Nat.le_of_ble_eq_true rfl⟩) ⟨hR_blind, va_recv (q := (RD, TD, 5)) (q0 := q53) (ci := 6) hK1.1 hP rfl eq53, hR_pre hP hK1 hG⟩ rfl rfl hl.1 rfl (lv_room (Nat.le_of_ble_eq_true rfl)) dV_checkIn_88 ⟨Nat.le_of_ble_eq_true rfl, Nat.le_of_ble_eq_true rfl⟩) (fun r9 hr9 => ?_)
        refine W.eq (g2 := F0 m 91 ls [.int (D_newest σ52 j8)]) (by rw [hr9]) ?_
        obtain ⟨hg9, hf⟩ := ite_n hf
        obtain ⟨h8, h9⟩ := Prod.mk.inj (Option.some.inj hf)
        subst h9
        have h8 := Option.some.inj h8
        have hdE : dom1 = dm9 ρ dom (row7 nw) := by rw [dm9_y (fun z => hg9 (h8.trans z))]; exact hd1
        rw [hdE] at hP hD hK1 hC hN1
        exact W.iret (pc := 91) hx hb hr (fun t ht hW => ⟨⟨_, (ad1, ca1), rfl, h8, hag1, by rw [ht]; exact hP, hD, hkt.moved hW.alike hK1, hC, hN1⟩, hS.F ht⟩) hS.2.2 dV_checkIn_91
      · replace hf := ite_t h38 hf
        refine lv_iconst (pc := 60) (v := (-1)) hx hb dV_checkIn_60 (by decide) ?_
        obtain ⟨h8, h9⟩ := Prod.mk.inj (Option.some.inj hf)
        subst h9
        have h8 := Option.some.inj h8
        refine W.widen (k := 5) (n := 28) (Nat.le_of_ble_eq_true rfl) (Nat.le_of_ble_eq_true rfl) ?_
        have hdE : dom = dm9 ρ dom (row7 nw) := (dm9_n h8.symm).symm
        rw [hdE] at hP hD hK hC hN
        exact W.iret (pc := 61) hx hb hr (fun t ht hW => ⟨⟨_, (ad, ca), rfl, h8, (fun _ _ _ => rfl), by rw [ht]; exact hP, hD, hkt.moved hW.alike hK, hC, hN⟩, hS.F ht⟩) hS.2.2 dV_checkIn_61
def V_baseline (n : Nat) (σ : hT) (a1 : Int32) (a2 : Int32) (nw : Nat) : Option ((Option Int32) × hT) := Option.bind (V_needPower σ) fun ⟨y2o, σ3⟩ => ex9 y2o σ3 fun y2 => Option.bind (V_baselineRefusal n σ3 a1 a2) fun ⟨y5, σ6⟩ => hq (xR σ6 105 0 0) (none) fun j9 => Option.bind (V_mayWrite σ6 y5 (B_pagesTaken σ6 j9)) fun ⟨y13o, σ14⟩ => ex9 y13o σ14 fun y13 => if y13 = 0 then some (some (-1), σ14) else hq (xR σ14 105 0 0) (none) fun j18 => if in9 a1 10 then lt9 (sR σ14 10 0 (a1).toNatClampNeg (some j18)) fun σ23 => lt9 (nB σ23 nw) fun σ32 => lt9 (sR σ32 105 0 0 (some nw)) fun σ36 => Option.bind (V_finish n σ36 (B_pagesTaken σ6 j9)) fun ⟨y39, σ40⟩ => if (xI σ40 202 j18 0) = (-1) then none else some (some (xI σ40 202 j18 0), σ40) else none
set_option maxHeartbeats 4000000 in
set_option maxRecDepth 100000 in
theorem t_V_baseline (l : Launch) (dC : Nat → ClassId) (dI : Nat → Nat → Nat) (ad : Nat → Nat → Nat) (ca : Nat → Nat → ClassId) (dom : List (Nat × Nat)) (sz : Nat) (n : Nat) (σ : hT) (a1 : Int32) (a2 : Int32) (nw : Nat) (hm0 : (0, 0) ∈ dom) (hfr1 : ∀ r ∈ row1 nw, r ∉ dom) (hN : dom.Nodup) (hC : clo dom σ.2.2) (ρ : Int32) (σ' : hT) (hf : V_baseline n σ a1 a2 nw = some (some ρ, σ')) : Met l yV_baseline (.code yV_baseline cV_baseline 6 (some .int) :: aw) ({ frames := 6, cells := 3, slots := 51, locals := 142 }) (hW (dC, dI) sz ad ca dom σ [.ref (ad 0 0), .int a1, .int a2]) (va_Qi (fun r (_ : ((Nat → Nat → Nat) × (Nat → Nat → ClassId))) => r = ρ) (fun u t => hBn (dC, dI) (va_A (w9 ad ca dom σ) sz) ad dom u.1 u.2 (dm9 ρ dom (row1 nw)) σ' t) (va_A (w9 ad ca dom σ) sz)) 3 51 (va_A (w9 ad ca dom σ) sz) := by
  refine Met.ofW (cc := cV_baseline) (maxL := 6) (ret := (some .int)) (by decide) rfl ?_
  intro p e s m args below meth c s₁ B hml hv
  obtain ⟨rfl, hv⟩ := hv
  have hx := B.exec
  have hb := B.bytes
  have hr := B.returns
  have hts : ∀ w ∈ aw, w.before _ s = true := fun w h => atoms_spec (ws := (.code yV_baseline cV_baseline 6 (some .int) :: aw)) B.pre w (List.mem_cons_of_mem _ h)
  have hown : s.vm.findClass RV = some m.cls := findClass_of_methodNamed B.named
  have hlocks := B.notSynchronized
  obtain ⟨hsz, hP, hK, hD0, hG⟩ := hv
  subst hsz
  have hD := hD0.self (sz := s.heap.size)
  generalize hAe : va_A (w9 ad ca dom σ) s.heap.size = A at hD ⊢
  have hA : ∀ q : Nat, s.heap.size ≤ q → A q := fun q h => by rw [← hAe]; exact Or.inr h
  obtain ⟨H, hH⟩ : ∃ H, H = s.heap := ⟨_, rfl⟩
  have hS : va_S A s.heap H [] := by rw [hH]; exact va_S.rf
  rw [← hH] at hP ⊢
  unfold V_baseline at hf
  have hl := lv_entry ([.ref (ad 0 0), .int a1, .int a2]) (n := 6) (Nat.le_of_ble_eq_true rfl)
  rw [lg_entry_eq]
  generalize (lg_sl ([.ref (ad 0 0), .int a1, .int a2]) ++ List.replicate (6 - (lg_sl ([.ref (ad 0 0), .int a1, .int a2])).length) Slot.unset).toArray = ls at hl ⊢
  have hl : lv_has ls 6 [(0, .ref (ad 0 0)), (1, .int a1), (2, .int a2)] := hl
  refine lv_aload_n (pc := 0) hx hb dV_baseline_0 rfl (lv_at hl 0 rfl) ?_
  obtain ⟨q1, hq1, eq1⟩ := at_0 (ad := ad) (ca := ca) (σ := σ) hm0
  obtain ⟨⟨y2o, σ3⟩, hy2, hf⟩ := ob hf
  obtain ⟨y2, rfl⟩ : ∃ z, y2o = some z := by
    cases y2o with
    | none => exact (ex9_n hf).elim
    | some z => exact ⟨z, rfl⟩
  replace hf := ex9_s hf
  have hFc := w9_free hD hS hA
  refine va_callv (pc := 1) (va_runV (As := []) (rest := []) ⟨hx, hb, hml, hown, hts⟩ (t_V_needPower l dC dI ad ca dom H.size σ hm0 hN hC y2 σ3 hy2) (cwV 0 hts (gV wd_499 wd_500 wd_501 wd_254 wd_498) rfl rfl rfl (by decide +kernel) ⟨Nat.le_of_ble_eq_true rfl, Nat.le_of_ble_eq_true rfl⟩) ⟨hW_blind, va_recv (q := (RV, TV, 9)) (q0 := q1) (ci := 0) hK.1 hP rfl eq1, hW_pre hP hK hD hG⟩ rfl rfl hl.1 rfl (lv_room (Nat.le_of_ble_eq_true rfl)) dV_baseline_1 ⟨Nat.le_of_ble_eq_true rfl, Nat.le_of_ble_eq_true rfl⟩) hS (fun q _ h => hFc q h) hFc (fun u t H1 locs ht hvm hr9 hB hz1 hk1 hS => ?_)
  obtain ⟨hP, hD, hC⟩ := hB
  rw [ht] at hP
  replace hD := hD.weaken (fun _ _ _ h => hFc _ h)
  generalize H1 = H at hP hS ⊢
  refine lv_aload_n (pc := 4) hx hb dV_baseline_4 rfl (lv_at hl 0 rfl) ?_
  refine lv_iload_n (pc := 5) hx hb dV_baseline_5 rfl (lv_at hl 1 rfl) ?_
  refine lv_iload_n (pc := 6) hx hb dV_baseline_6 rfl (lv_at hl 2 rfl) ?_
  obtain ⟨q4, hq4, eq4⟩ := at_0 (ad := ad) (ca := ca) (σ := σ3) hm0
  obtain ⟨⟨y5, σ6⟩, hy5, hf⟩ := ob hf
  have hFc := w9_free hD hS hA
  refine va_calli (pc := 7) (va_runV (As := [.int a1, .int a2]) (rest := []) ⟨hx, hb, hml, hown, hts⟩ (t_V_baselineRefusal l dC dI ad ca dom H.size n σ3 a1 a2 hm0 hN hC y5 σ6 hy5) (cwV 2 hts (gV wd_697 wd_698 wd_699 wd_254 wd_696) rfl rfl rfl (by decide +kernel) ⟨Nat.le_of_ble_eq_true rfl, Nat.le_of_ble_eq_true rfl⟩) ⟨hW_blind, va_recv (q := (RV, TV, 9)) (q0 := q4) (ci := 0) hK.1 hP rfl eq4, hW_pre hP hK hD hG⟩ rfl rfl hl.1 rfl (lv_room (Nat.le_of_ble_eq_true rfl)) dV_baseline_7 ⟨Nat.le_of_ble_eq_true rfl, Nat.le_of_ble_eq_true rfl⟩) hS (fun q _ h => hFc q h) hFc (fun r9 u t H1 locs ht hvm hr9 hB hz1 hk1 hS => ?_)
  obtain ⟨hP, hD, hC⟩ := hB
  rw [ht] at hP
  replace hD := hD.weaken (fun _ _ _ h => hFc _ h)
  generalize H1 = H at hP hS ⊢
  refine W.eq (g2 := F0 m 10 ls [.int y5]) (by rw [hr9]) ?_
  refine lv_istore_n (pc := 10) hx hb dV_baseline_10 rfl hl (by decide) rfl (fun ls hl => ?_)
  have hl : lv_has ls 6 [(3, .int y5), (0, .ref (ad 0 0)), (1, .int a1), (2, .int a2)] := hl
  refine lv_aload_n (pc := 11) hx hb dV_baseline_11 rfl (lv_at hl 1 rfl) ?_
  obtain ⟨q7, hq7, eq7⟩ := at_0 (ad := ad) (ca := ca) (σ := σ6) hm0
  refine va_get (D := (dC, dI)) (cl := kCl) (C := RV) (T := TV) (N := 9) (pc := 12) hx hb hts inV hown hK.1 hP q7 eq7 rfl 5 (by decide) (hts _ wd_427) (fun _ h9 => h9) rfl dV_baseline_12 ?_
  rcases hE8 : xR σ6 105 0 0 with _ | j9
  · replace hf := hq_n hE8 hf
    refine W.eq (g2 := F0 m 15 ls [.null]) rfl ?_
    exact nomatch hf
  · replace hf := hq_s hE8 hf
    have hm10 : (1, j9) ∈ dom := (cq_0_5 hC hm0 hE8)
    refine W.eq (g2 := F0 m 15 ls [.ref (ad 1 j9)]) rfl ?_
    obtain ⟨q11, hq11, eq11⟩ := at_1 (ad := ad) (ca := ca) (σ := σ6) hm10
    refine vp_callSi (pc := 15) (W.runV (As := []) (rest := []) ⟨hx, hb, hml, hown, hts⟩ (t_B_pagesTaken l dC dI ad ca dom σ6 j9 hm10 hN hC (B_pagesTaken σ6 j9) rfl) (cwV 0 hts (gV wd_375 wd_376 wd_377 wd_378 wd_374) rfl rfl rfl (by decide +kernel) ⟨Nat.le_of_ble_eq_true rfl, Nat.le_of_ble_eq_true rfl⟩) ⟨hR_blind, va_recv (q := (RB, TB, 3)) (q0 := q11) (ci := 1) hK.1 hP rfl eq11, hR_pre hP hK hG⟩ rfl rfl hl.1 rfl (lv_room (Nat.le_of_ble_eq_true rfl)) dV_baseline_15 ⟨Nat.le_of_ble_eq_true rfl, Nat.le_of_ble_eq_true rfl⟩) (fun r9 hr9 => ?_)
    refine W.eq (g2 := F0 m 18 ls [.int (B_pagesTaken σ6 j9)]) (by rw [hr9]) ?_
    refine lv_istore (pc := 18) hx hb dV_baseline_18 hl (by decide) rfl (fun ls hl => ?_)
    have hl : lv_has ls 6 [(4, .int (B_pagesTaken σ6 j9)), (3, .int y5), (0, .ref (ad 0 0)), (1, .int a1), (2, .int a2)] := hl
    refine lv_aload_n (pc := 20) hx hb dV_baseline_20 rfl (lv_at hl 2 rfl) ?_
    refine lv_iload_n (pc := 21) hx hb dV_baseline_21 rfl (lv_at hl 1 rfl) ?_
    refine lv_iload (pc := 22) hx hb dV_baseline_22 (lv_at hl 0 rfl) ?_
    obtain ⟨q12, hq12, eq12⟩ := at_0 (ad := ad) (ca := ca) (σ := σ6) hm0
    obtain ⟨⟨y13o, σ14⟩, hy13, hf⟩ := ob hf
    obtain ⟨y13, rfl⟩ : ∃ z, y13o = some z := by
      cases y13o with
      | none => exact (ex9_n hf).elim
      | some z => exact ⟨z, rfl⟩
    replace hf := ex9_s hf
    have hFc := w9_free hD hS hA
    refine va_calli (pc := 24) (va_runV (As := [.int y5, .int (B_pagesTaken σ6 j9)]) (rest := []) ⟨hx, hb, hml, hown, hts⟩ (t_V_mayWrite l dC dI ad ca dom H.size σ6 y5 (B_pagesTaken σ6 j9) hm0 hN hC y13 σ14 hy13) (cwV 2 hts (gV wd_491 wd_492 wd_493 wd_254 wd_490) rfl rfl rfl (by decide +kernel) ⟨Nat.le_of_ble_eq_true rfl, Nat.le_of_ble_eq_true rfl⟩) ⟨hW_blind, va_recv (q := (RV, TV, 9)) (q0 := q12) (ci := 0) hK.1 hP rfl eq12, hW_pre hP hK hD hG⟩ rfl rfl hl.1 rfl (lv_room (Nat.le_of_ble_eq_true rfl)) dV_baseline_24 ⟨Nat.le_of_ble_eq_true rfl, Nat.le_of_ble_eq_true rfl⟩) hS (fun q _ h => hFc q h) hFc (fun r9 u t H1 locs ht hvm hr9 hB hz1 hk1 hS => ?_)
    obtain ⟨hP, hD, hC⟩ := hB
    rw [ht] at hP
    replace hD := hD.weaken (fun _ _ _ h => hFc _ h)
    generalize H1 = H at hP hS ⊢
    refine W.eq (g2 := F0 m 27 ls [.int y13]) (by rw [hr9]) ?_
    refine lv_if_ne (pc := 27) (tgt := 32) hx hb dV_baseline_27 rfl (fun h15 => ?_) (fun h15 => ?_)
    · replace hf := ite_f h15 hf
      refine lv_aload_n (pc := 32) hx hb dV_baseline_32 rfl (lv_at hl 2 rfl) ?_
      obtain ⟨q16, hq16, eq16⟩ := at_0 (ad := ad) (ca := ca) (σ := σ14) hm0
      refine va_get (D := (dC, dI)) (cl := kCl) (C := RV) (T := TV) (N := 9) (pc := 33) hx hb hts inV hown hK.1 hP q16 eq16 rfl 5 (by decide) (hts _ wd_427) (fun _ h9 => h9) rfl dV_baseline_33 ?_
      rcases hE17 : xR σ14 105 0 0 with _ | j18
      · replace hf := hq_n hE17 hf
        refine W.eq (g2 := F0 m 36 ls [.null]) rfl ?_
        refine lv_astoreN (pc := 36) hx hb dV_baseline_36 hl (by decide) rfl (fun ls hl => ?_)
        have hl : lv_has ls 6 [(5, .null), (4, .int (B_pagesTaken σ6 j9)), (3, .int y5), (0, .ref (ad 0 0)), (1, .int a1), (2, .int a2)] := hl
        refine lv_aload_n (pc := 38) hx hb dV_baseline_38 rfl (lv_at hl 3 rfl) ?_
        obtain ⟨q19, hq19, eq19⟩ := at_0 (ad := ad) (ca := ca) (σ := σ14) hm0
        refine va_get (D := (dC, dI)) (cl := kCl) (C := RV) (T := TV) (N := 9) (pc := 39) hx hb hts inV hown hK.1 hP q19 eq19 rfl 4 (by decide) (hts _ wd_322) (fun _ h9 => h9) rfl dV_baseline_39 ?_
        refine lv_iload_n (pc := 42) hx hb dV_baseline_42 rfl (lv_at hl 4 rfl) ?_
        refine lv_aloadN (pc := 43) hx hb dV_baseline_43 (lv_at hl 0 rfl) ?_
        exact nomatch hf
      · replace hf := hq_s hE17 hf
        have hm21 : (1, j18) ∈ dom := (cq_0_5 hC hm0 hE17)
        refine W.eq (g2 := F0 m 36 ls [.ref (ad 1 j18)]) rfl ?_
        refine lv_astore (pc := 36) hx hb dV_baseline_36 hl (by decide) rfl (fun ls hl => ?_)
        have hl : lv_has ls 6 [(5, .ref (ad 1 j18)), (4, .int (B_pagesTaken σ6 j9)), (3, .int y5), (0, .ref (ad 0 0)), (1, .int a1), (2, .int a2)] := hl
        refine lv_aload_n (pc := 38) hx hb dV_baseline_38 rfl (lv_at hl 3 rfl) ?_
        obtain ⟨q22, hq22, eq22⟩ := at_0 (ad := ad) (ca := ca) (σ := σ14) hm0
        refine va_get (D := (dC, dI)) (cl := kCl) (C := RV) (T := TV) (N := 9) (pc := 39) hx hb hts inV hown hK.1 hP q22 eq22 rfl 4 (by decide) (hts _ wd_322) (fun _ h9 => h9) rfl dV_baseline_39 ?_
        refine lv_iload_n (pc := 42) hx hb dV_baseline_42 rfl (lv_at hl 4 rfl) ?_
        refine lv_aload (pc := 43) hx hb dV_baseline_43 (lv_at hl 0 rfl) ?_
        obtain ⟨hv24, hf⟩ := ite_s hf
        obtain ⟨q25, hq25, eq25⟩ := at_10 (ad := ad) (ca := ca) (σ := σ14) (cm_0_4 hC hm0)
        obtain ⟨q26, hq26, eq26⟩ := at_1 (ad := ad) (ca := ca) (σ := σ14) hm21
        refine va_astq (D := (dC, dI)) (cl := kCl) (r := (RB, TB, 3)) (pc := 45) hx hb (hK.2 10 0 (.object "DrawingVault$Baseline") (cm_0_4 hC hm0) rfl) hP hD hS q25 0 q26 1 eq25 rfl eq26 rfl (hv24) dV_baseline_45 (fun H locs hP hD hS => ?_)
        have hCn := cs_10 (j := 0) (k := (a1).toNatClampNeg) (v := some j18) hC (fun _ z => Option.some.inj z ▸ hm21)
        obtain ⟨σ23, hσ23, hf⟩ := lt_9 hf
        obtain ⟨hP, hD⟩ := w9_rR 10 rfl hN hq25 hσ23 (pa_10) hP hD
        have hC : clo dom σ23.2.2 := by rw [hσ23]; exact hCn
        refine lv_aload_n (pc := 46) hx hb dV_baseline_46 rfl (lv_at hl 3 rfl) ?_
        have hCo := hC
        refine va_new (D := (dC, dI)) (cl := kCl) (pc := 47) (ci := 1) (fs := [.null, .null, .int 0]) (C := RB) (T := TB) (N := 3) hx hb hts inB tyB tyB_ok hown (hts _ wd_661) (hts _ wd_662) (hts _ wd_378) hK.1 hP hD hS hA rfl (fun j hj => by rcases (show j = 0 ∨ j = 1 ∨ j = 2 by omega) with rfl | rfl | rfl <;> rfl) (Nat.le_of_ble_eq_true rfl) (Nat.le_of_ble_eq_true rfl) dV_baseline_47 (fun q27 H hP hD hS => ?_)
        refine W.widen (k := 1) (n := 3) (Nat.le_of_ble_eq_true rfl) (Nat.le_of_ble_eq_true rfl) ?_
        refine lv_dup (pc := 50) hx hb dV_baseline_50 rfl ?_
        have hPc : va_P (dC, dI) kCl [(q27, .inr (1, [.null, .null, .int 0]))] H := la9 hP
        have hDc := lb9 hD
        have hFc : ∀ z, va_A [(q27, .inr (1, [.null, .null, .int 0]))] H.size z → A z := lc9 hD hS hA
        refine va_callv (pc := 51) (va_runI (As := []) (rest := [.ref q27, .ref (ad 0 0)]) ⟨hx, hb, hml, hown, hts⟩ (gb_init l dC dI H.size q27) (cwI 0 hts (gI wd_663) rfl rfl rfl (hts _ wd_378) (hts _ wd_664) (hts _ wd_665) rfl (by decide +kernel) ⟨Nat.le_of_ble_eq_true rfl, Nat.le_of_ble_eq_true rfl⟩) ⟨pW_blind, pW_pre hPc hK.1 hDc hG⟩ rfl rfl hl.1 rfl (lv_room (Nat.le_of_ble_eq_true rfl)) dV_baseline_51 ⟨Nat.le_of_ble_eq_true rfl, Nat.le_of_ble_eq_true rfl⟩) hS (fun q _ h => hFc q h) hFc (fun u t H1 locs ht hvm hr9 hB hz1 hk1 hS => ?_)
        obtain ⟨z28, z29, z30, z31, hP1, hKn, hD1⟩ := hB
        rw [ht] at hP1
        replace hKn := va_K.moved hvm.symm hKn
        obtain ⟨hP, hD⟩ := jn_c9 hP hD hk1 hFc hP1 hD1
        generalize H1 = H at hP hS ⊢
        obtain ⟨ad1, ca1, ha1, hq1, hP, hD, hK1, hC, hN1⟩ := imx_1 (n := nw) hN hC hK hfr1 hKn hP hD
        refine W.widen (k := 3) (n := 51) (Nat.le_of_ble_eq_true rfl) (Nat.le_of_ble_eq_true rfl) ?_
        obtain ⟨dom1, hd1⟩ : ∃ d, d = dom ++ row1 nw := ⟨_, rfl⟩
        rw [← hd1] at hP hD hK1 hC hN1
        have hdm1 : ∀ r, r ∈ dom → r ∈ dom1 := fun r h => by rw [hd1]; exact List.mem_append_left _ h
        have hag1 : ∀ κ j, (κ, j) ∈ dom → ad1 κ j = ad κ j := ha1
        have hdo1 : ∀ r, r ∈ dom → r ∈ dom1 := hdm1
        have hm33x := hm21
        have hm33 : (1, j18) ∈ dom1 := hdm1 _ hm33x
        have hm34x := hm0
        have hm34 : (0, 0) ∈ dom1 := hdm1 _ hm34x
        have hl : lv_has ls 6 [(5, .ref (ad1 1 j18)), (4, .int (B_pagesTaken σ6 j9)), (3, .int y5), (0, .ref (ad1 0 0)), (1, .int a1), (2, .int a2)] := by simp only [ha1 1 j18 hm33x, ha1 0 0 hm34x]; exact hl
        obtain ⟨σ32, hσ32, hf⟩ := lt_9 hf
        rw [← hσ32] at hP hD hC
        have hm35 : (1, nw) ∈ dom1 := by rw [hd1]; exact List.mem_append_right _ (by simp [row1])
        refine W.eq (g2 := F0 m 54 ls [.ref (ad1 1 nw), .ref (ad1 0 0)]) (by simp only [hq1, ha1 1 j18 hm33x, ha1 0 0 hm34x]) ?_
        obtain ⟨q37, hq37, eq37⟩ := at_0 (ad := ad1) (ca := ca1) (σ := σ32) hm34
        refine va_put (D := (dC, dI)) (cl := kCl) (ci := 0) (v := .ref (ad1 1 nw)) (ty := (.object "DrawingVault$Baseline")) (C := RV) (T := TV) (N := 9) (pc := 54) hx hb hts inV tyV tyV_ok nmV hown hK1.1 hP hD hS q37 eq37 rfl 5 (by decide) (hts _ wd_427) (fun _ h9 => h9) rfl (by decide +kernel) rfl rfl (Nat.le_of_ble_eq_true rfl) dV_baseline_54 (fun H locs hP hD hS => ?_)
        have hCn := cs_105 (j := 0) (k := 0) (v := (some nw)) hC (fun _ z => Option.some.inj z ▸ hm35)
        obtain ⟨σ36, hσ36, hf⟩ := lt_9 hf
        obtain ⟨hP, hD⟩ := w9_rR 105 rfl hN1 hq37 hσ36 (pu_105) hP hD
        have hC : clo dom1 σ36.2.2 := by rw [hσ36]; exact hCn
        refine lv_aload_n (pc := 57) hx hb dV_baseline_57 rfl (lv_at hl 3 rfl) ?_
        refine lv_iload (pc := 58) hx hb dV_baseline_58 (lv_at hl 1 rfl) ?_
        obtain ⟨q38, hq38, eq38⟩ := at_0 (ad := ad1) (ca := ca1) (σ := σ36) hm34
        obtain ⟨⟨y39, σ40⟩, hy39, hf⟩ := ob hf
        have hFc := w9_free hD hS hA
        refine va_callv (pc := 60) (va_runV (As := [.int (B_pagesTaken σ6 j9)]) (rest := []) ⟨hx, hb, hml, hown, hts⟩ (t_V_finish l dC dI ad1 ca1 dom1 H.size n σ36 (B_pagesTaken σ6 j9) hm34 hN1 hC y39 σ40 hy39) (cwV 1 hts (gV wd_495 wd_496 wd_497 wd_254 wd_494) rfl rfl rfl (by decide +kernel) ⟨Nat.le_of_ble_eq_true rfl, Nat.le_of_ble_eq_true rfl⟩) ⟨hW_blind, va_recv (q := (RV, TV, 9)) (q0 := q38) (ci := 0) hK1.1 hP rfl eq38, hW_pre hP hK1 hD hG⟩ rfl rfl hl.1 rfl (lv_room (Nat.le_of_ble_eq_true rfl)) dV_baseline_60 ⟨Nat.le_of_ble_eq_true rfl, Nat.le_of_ble_eq_true rfl⟩) hS (fun q _ h => hFc q h) hFc (fun u t H1 locs ht hvm hr9 hB hz1 hk1 hS => ?_)
        obtain ⟨hP, hD, hC⟩ := hB
        rw [ht] at hP
        replace hD := hD.weaken (fun _ _ _ h => hFc _ h)
        generalize H1 = H at hP hS ⊢
        refine lv_aload (pc := 63) hx hb dV_baseline_63 (lv_at hl 0 rfl) ?_
        obtain ⟨q41, hq41, eq41⟩ := at_1 (ad := ad1) (ca := ca1) (σ := σ40) hm33
        refine va_get (D := (dC, dI)) (cl := kCl) (C := RB) (T := TB) (N := 3) (pc := 65) hx hb hts inB hown hK1.1 hP q41 eq41 rfl 2 (by decide) (hts _ wd_432) (fun _ h9 => h9) rfl dV_baseline_65 ?_
        obtain ⟨hg9, hf⟩ := ite_n hf
        obtain ⟨h8, h9⟩ := Prod.mk.inj (Option.some.inj hf)
        subst h9
        have h8 := Option.some.inj h8
        have hdE : dom1 = dm9 ρ dom (row1 nw) := by rw [dm9_y (fun z => hg9 (h8.trans z))]; exact hd1
        rw [hdE] at hP hD hK1 hC hN1
        exact W.iret (pc := 68) hx hb hr (fun t ht hW => ⟨⟨_, (ad1, ca1), rfl, h8, hag1, by rw [ht]; exact hP, hD, hkt.moved hW.alike hK1, hC, hN1⟩, hS.F ht⟩) hS.2.2 dV_baseline_68
    · replace hf := ite_t h15 hf
      refine lv_iconst (pc := 30) (v := (-1)) hx hb dV_baseline_30 (by decide) ?_
      obtain ⟨h8, h9⟩ := Prod.mk.inj (Option.some.inj hf)
      subst h9
      have h8 := Option.some.inj h8
      refine W.widen (k := 3) (n := 51) (Nat.le_of_ble_eq_true rfl) (Nat.le_of_ble_eq_true rfl) ?_
      have hdE : dom = dm9 ρ dom (row1 nw) := (dm9_n h8.symm).symm
      rw [hdE] at hP hD hK hC hN
      exact W.iret (pc := 31) hx hb hr (fun t ht hW => ⟨⟨_, (ad, ca), rfl, h8, (fun _ _ _ => rfl), by rw [ht]; exact hP, hD, hkt.moved hW.alike hK, hC, hN⟩, hS.F ht⟩) hS.2.2 dV_baseline_31
