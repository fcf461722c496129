abbrev cC_init : ByteArray := prog_4_method_1_code
abbrev yC_init : MethodName := ⟨"DrawingVault$Content", "<init>", "()V"⟩
theorem dC_init_0 : decode cC_init 0 = .ok (.aload_n 0, 1) := by decide +kernel
theorem dC_init_1 : decode cC_init 1 = .ok (.invokespecial 3, 3) := by decide +kernel
theorem dC_init_4 : decode cC_init 4 = .ok (.aload_n 0, 1) := by decide +kernel
theorem dC_init_5 : decode cC_init 5 = .ok (.bipush 8, 2) := by decide +kernel
theorem dC_init_7 : decode cC_init 7 = .ok (.newarray .long, 2) := by decide +kernel
theorem dC_init_9 : decode cC_init 9 = .ok (.putfield 9, 3) := by decide +kernel
theorem dC_init_12 : decode cC_init 12 = .ok (.aload_n 0, 1) := by decide +kernel
theorem dC_init_13 : decode cC_init 13 = .ok (.bipush 6, 2) := by decide +kernel
theorem dC_init_15 : decode cC_init 15 = .ok (.newarray .int, 2) := by decide +kernel
theorem dC_init_17 : decode cC_init 17 = .ok (.putfield 15, 3) := by decide +kernel
theorem dC_init_20 : decode cC_init 20 = .ok (.aload_n 0, 1) := by decide +kernel
theorem dC_init_21 : decode cC_init 21 = .ok (.bipush 6, 2) := by decide +kernel
theorem dC_init_23 : decode cC_init 23 = .ok (.newarray .int, 2) := by decide +kernel
theorem dC_init_25 : decode cC_init 25 = .ok (.putfield 19, 3) := by decide +kernel
theorem dC_init_28 : decode cC_init 28 = .ok (.return_, 1) := by decide +kernel
abbrev cB_init : ByteArray := prog_2_method_1_code
abbrev yB_init : MethodName := ⟨"DrawingVault$Baseline", "<init>", "()V"⟩
theorem dB_init_0 : decode cB_init 0 = .ok (.aload_n 0, 1) := by decide +kernel
theorem dB_init_1 : decode cB_init 1 = .ok (.invokespecial 3, 3) := by decide +kernel
theorem dB_init_4 : decode cB_init 4 = .ok (.aload_n 0, 1) := by decide +kernel
theorem dB_init_5 : decode cB_init 5 = .ok (.bipush 24, 2) := by decide +kernel
theorem dB_init_7 : decode cB_init 7 = .ok (.newarray .int, 2) := by decide +kernel
theorem dB_init_9 : decode cB_init 9 = .ok (.putfield 9, 3) := by decide +kernel
theorem dB_init_12 : decode cB_init 12 = .ok (.aload_n 0, 1) := by decide +kernel
theorem dB_init_13 : decode cB_init 13 = .ok (.bipush 24, 2) := by decide +kernel
theorem dB_init_15 : decode cB_init 15 = .ok (.newarray .int, 2) := by decide +kernel
theorem dB_init_17 : decode cB_init 17 = .ok (.putfield 15, 3) := by decide +kernel
theorem dB_init_20 : decode cB_init 20 = .ok (.aload_n 0, 1) := by decide +kernel
theorem dB_init_21 : decode cB_init 21 = .ok (.getfield 9, 3) := by decide +kernel
theorem dB_init_24 : decode cB_init 24 = .ok (.iconst (-1), 1) := by decide +kernel
theorem dB_init_25 : decode cB_init 25 = .ok (.invokestatic 18, 3) := by decide +kernel
theorem dB_init_28 : decode cB_init 28 = .ok (.return_, 1) := by decide +kernel
abbrev cP_init : ByteArray := prog_6_method_1_code
abbrev yP_init : MethodName := ⟨"DrawingVault$Pages", "<init>", "()V"⟩
theorem dP_init_0 : decode cP_init 0 = .ok (.aload_n 0, 1) := by decide +kernel
theorem dP_init_1 : decode cP_init 1 = .ok (.invokespecial 3, 3) := by decide +kernel
theorem dP_init_4 : decode cP_init 4 = .ok (.aload_n 0, 1) := by decide +kernel
theorem dP_init_5 : decode cP_init 5 = .ok (.sipush 400, 3) := by decide +kernel
theorem dP_init_8 : decode cP_init 8 = .ok (.putfield 9, 3) := by decide +kernel
theorem dP_init_11 : decode cP_init 11 = .ok (.return_, 1) := by decide +kernel
abbrev cK_init : ByteArray := prog_3_method_1_code
abbrev yK_init : MethodName := ⟨"DrawingVault$ChunkSet", "<init>", "()V"⟩
theorem dK_init_0 : decode cK_init 0 = .ok (.aload_n 0, 1) := by decide +kernel
theorem dK_init_1 : decode cK_init 1 = .ok (.invokespecial 3, 3) := by decide +kernel
theorem dK_init_4 : decode cK_init 4 = .ok (.aload_n 0, 1) := by decide +kernel
theorem dK_init_5 : decode cK_init 5 = .ok (.sipush 992, 3) := by decide +kernel
theorem dK_init_8 : decode cK_init 8 = .ok (.newarray .long, 2) := by decide +kernel
theorem dK_init_10 : decode cK_init 10 = .ok (.putfield 9, 3) := by decide +kernel
theorem dK_init_13 : decode cK_init 13 = .ok (.aload_n 0, 1) := by decide +kernel
theorem dK_init_14 : decode cK_init 14 = .ok (.sipush 992, 3) := by decide +kernel
theorem dK_init_17 : decode cK_init 17 = .ok (.newarray .byte, 2) := by decide +kernel
theorem dK_init_19 : decode cK_init 19 = .ok (.putfield 15, 3) := by decide +kernel
theorem dK_init_22 : decode cK_init 22 = .ok (.return_, 1) := by decide +kernel
abbrev cS_init : ByteArray := prog_7_method_1_code
abbrev yS_init : MethodName := ⟨"DrawingVault$Revision", "<init>", "(I)V"⟩
theorem dS_init_0 : decode cS_init 0 = .ok (.aload_n 0, 1) := by decide +kernel
theorem dS_init_1 : decode cS_init 1 = .ok (.invokespecial 3, 3) := by decide +kernel
theorem dS_init_4 : decode cS_init 4 = .ok (.aload_n 0, 1) := by decide +kernel
theorem dS_init_5 : decode cS_init 5 = .ok (.new 9, 3) := by decide +kernel
theorem dS_init_8 : decode cS_init 8 = .ok (.dup, 1) := by decide +kernel
theorem dS_init_9 : decode cS_init 9 = .ok (.invokespecial 11, 3) := by decide +kernel
theorem dS_init_12 : decode cS_init 12 = .ok (.putfield 12, 3) := by decide +kernel
theorem dS_init_15 : decode cS_init 15 = .ok (.aload_n 0, 1) := by decide +kernel
theorem dS_init_16 : decode cS_init 16 = .ok (.iconst 0, 1) := by decide +kernel
theorem dS_init_17 : decode cS_init 17 = .ok (.putfield 18, 3) := by decide +kernel
theorem dS_init_20 : decode cS_init 20 = .ok (.aload_n 0, 1) := by decide +kernel
theorem dS_init_21 : decode cS_init 21 = .ok (.iload_n 1, 1) := by decide +kernel
theorem dS_init_22 : decode cS_init 22 = .ok (.putfield 22, 3) := by decide +kernel
theorem dS_init_25 : decode cS_init 25 = .ok (.return_, 1) := by decide +kernel
abbrev cD_init : ByteArray := prog_5_method_1_code
abbrev yD_init : MethodName := ⟨"DrawingVault$Drawing", "<init>", "()V"⟩
theorem dD_init_0 : decode cD_init 0 = .ok (.aload_n 0, 1) := by decide +kernel
theorem dD_init_1 : decode cD_init 1 = .ok (.invokespecial 3, 3) := by decide +kernel
theorem dD_init_4 : decode cD_init 4 = .ok (.aload_n 0, 1) := by decide +kernel
theorem dD_init_5 : decode cD_init 5 = .ok (.bipush 12, 2) := by decide +kernel
theorem dD_init_7 : decode cD_init 7 = .ok (.anewarray 9, 3) := by decide +kernel
theorem dD_init_10 : decode cD_init 10 = .ok (.putfield 11, 3) := by decide +kernel
theorem dD_init_13 : decode cD_init 13 = .ok (.aload_n 0, 1) := by decide +kernel
theorem dD_init_14 : decode cD_init 14 = .ok (.iconst (-1), 1) := by decide +kernel
theorem dD_init_15 : decode cD_init 15 = .ok (.putfield 17, 3) := by decide +kernel
theorem dD_init_18 : decode cD_init 18 = .ok (.aload_n 0, 1) := by decide +kernel
theorem dD_init_19 : decode cD_init 19 = .ok (.new 21, 3) := by decide +kernel
theorem dD_init_22 : decode cD_init 22 = .ok (.dup, 1) := by decide +kernel
theorem dD_init_23 : decode cD_init 23 = .ok (.invokespecial 23, 3) := by decide +kernel
theorem dD_init_26 : decode cD_init 26 = .ok (.putfield 24, 3) := by decide +kernel
theorem dD_init_29 : decode cD_init 29 = .ok (.aload_n 0, 1) := by decide +kernel
theorem dD_init_30 : decode cD_init 30 = .ok (.new 21, 3) := by decide +kernel
theorem dD_init_33 : decode cD_init 33 = .ok (.dup, 1) := by decide +kernel
theorem dD_init_34 : decode cD_init 34 = .ok (.invokespecial 23, 3) := by decide +kernel
theorem dD_init_37 : decode cD_init 37 = .ok (.putfield 28, 3) := by decide +kernel
theorem dD_init_40 : decode cD_init 40 = .ok (.return_, 1) := by decide +kernel
abbrev cV_init : ByteArray := prog_1_method_1_code
abbrev yV_init : MethodName := ⟨"DrawingVault", "<init>", "()V"⟩
theorem dV_init_0 : decode cV_init 0 = .ok (.aload_n 0, 1) := by decide +kernel
theorem dV_init_1 : decode cV_init 1 = .ok (.invokespecial 3, 3) := by decide +kernel
theorem dV_init_4 : decode cV_init 4 = .ok (.aload_n 0, 1) := by decide +kernel
theorem dV_init_5 : decode cV_init 5 = .ok (.bipush 16, 2) := by decide +kernel
theorem dV_init_7 : decode cV_init 7 = .ok (.newarray .int, 2) := by decide +kernel
theorem dV_init_9 : decode cV_init 9 = .ok (.putfield 9, 3) := by decide +kernel
theorem dV_init_12 : decode cV_init 12 = .ok (.aload_n 0, 1) := by decide +kernel
theorem dV_init_13 : decode cV_init 13 = .ok (.bipush 24, 2) := by decide +kernel
theorem dV_init_15 : decode cV_init 15 = .ok (.anewarray 13, 3) := by decide +kernel
theorem dV_init_18 : decode cV_init 18 = .ok (.putfield 15, 3) := by decide +kernel
theorem dV_init_21 : decode cV_init 21 = .ok (.aload_n 0, 1) := by decide +kernel
theorem dV_init_22 : decode cV_init 22 = .ok (.bipush 10, 2) := by decide +kernel
theorem dV_init_24 : decode cV_init 24 = .ok (.anewarray 19, 3) := by decide +kernel
theorem dV_init_27 : decode cV_init 27 = .ok (.putfield 21, 3) := by decide +kernel
theorem dV_init_30 : decode cV_init 30 = .ok (.aload_n 0, 1) := by decide +kernel
theorem dV_init_31 : decode cV_init 31 = .ok (.new 19, 3) := by decide +kernel
theorem dV_init_34 : decode cV_init 34 = .ok (.dup, 1) := by decide +kernel
theorem dV_init_35 : decode cV_init 35 = .ok (.invokespecial 25, 3) := by decide +kernel
theorem dV_init_38 : decode cV_init 38 = .ok (.putfield 26, 3) := by decide +kernel
theorem dV_init_41 : decode cV_init 41 = .ok (.aload_n 0, 1) := by decide +kernel
theorem dV_init_42 : decode cV_init 42 = .ok (.new 30, 3) := by decide +kernel
theorem dV_init_45 : decode cV_init 45 = .ok (.dup, 1) := by decide +kernel
theorem dV_init_46 : decode cV_init 46 = .ok (.invokespecial 32, 3) := by decide +kernel
theorem dV_init_49 : decode cV_init 49 = .ok (.putfield 33, 3) := by decide +kernel
theorem dV_init_52 : decode cV_init 52 = .ok (.aload_n 0, 1) := by decide +kernel
theorem dV_init_53 : decode cV_init 53 = .ok (.new 37, 3) := by decide +kernel
theorem dV_init_56 : decode cV_init 56 = .ok (.dup, 1) := by decide +kernel
theorem dV_init_57 : decode cV_init 57 = .ok (.invokespecial 39, 3) := by decide +kernel
theorem dV_init_60 : decode cV_init 60 = .ok (.putfield 40, 3) := by decide +kernel
theorem dV_init_63 : decode cV_init 63 = .ok (.return_, 1) := by decide +kernel
abbrev cM_init : ByteArray := prog_9_method_1_code
abbrev yM_init : MethodName := ⟨"DrawingVaultModel", "<init>", "()V"⟩
theorem dM_init_0 : decode cM_init 0 = .ok (.aload_n 0, 1) := by decide +kernel
theorem dM_init_1 : decode cM_init 1 = .ok (.invokespecial 1, 3) := by decide +kernel
theorem dM_init_4 : decode cM_init 4 = .ok (.aload_n 0, 1) := by decide +kernel
theorem dM_init_5 : decode cM_init 5 = .ok (.sipush 25240, 3) := by decide +kernel
theorem dM_init_8 : decode cM_init 8 = .ok (.newarray .int, 2) := by decide +kernel
theorem dM_init_10 : decode cM_init 10 = .ok (.putfield 7, 3) := by decide +kernel
theorem dM_init_13 : decode cM_init 13 = .ok (.aload_n 0, 1) := by decide +kernel
theorem dM_init_14 : decode cM_init 14 = .ok (.sipush 25240, 3) := by decide +kernel
theorem dM_init_17 : decode cM_init 17 = .ok (.newarray .int, 2) := by decide +kernel
theorem dM_init_19 : decode cM_init 19 = .ok (.putfield 13, 3) := by decide +kernel
theorem dM_init_22 : decode cM_init 22 = .ok (.aload_n 0, 1) := by decide +kernel
theorem dM_init_23 : decode cM_init 23 = .ok (.iconst (-1), 1) := by decide +kernel
theorem dM_init_24 : decode cM_init 24 = .ok (.putfield 16, 3) := by decide +kernel
theorem dM_init_27 : decode cM_init 27 = .ok (.aload_n 0, 1) := by decide +kernel
theorem dM_init_28 : decode cM_init 28 = .ok (.bipush 24, 2) := by decide +kernel
theorem dM_init_30 : decode cM_init 30 = .ok (.newarray .boolean, 2) := by decide +kernel
theorem dM_init_32 : decode cM_init 32 = .ok (.putfield 20, 3) := by decide +kernel
theorem dM_init_35 : decode cM_init 35 = .ok (.aload_n 0, 1) := by decide +kernel
theorem dM_init_36 : decode cM_init 36 = .ok (.bipush 24, 2) := by decide +kernel
theorem dM_init_38 : decode cM_init 38 = .ok (.newarray .int, 2) := by decide +kernel
theorem dM_init_40 : decode cM_init 40 = .ok (.putfield 24, 3) := by decide +kernel
theorem dM_init_43 : decode cM_init 43 = .ok (.aload_n 0, 1) := by decide +kernel
theorem dM_init_44 : decode cM_init 44 = .ok (.sipush 288, 3) := by decide +kernel
theorem dM_init_47 : decode cM_init 47 = .ok (.newarray .boolean, 2) := by decide +kernel
theorem dM_init_49 : decode cM_init 49 = .ok (.putfield 27, 3) := by decide +kernel
theorem dM_init_52 : decode cM_init 52 = .ok (.aload_n 0, 1) := by decide +kernel
theorem dM_init_53 : decode cM_init 53 = .ok (.getfield 7, 3) := by decide +kernel
theorem dM_init_56 : decode cM_init 56 = .ok (.bipush 17, 2) := by decide +kernel
theorem dM_init_58 : decode cM_init 58 = .ok (.sipush 400, 3) := by decide +kernel
theorem dM_init_61 : decode cM_init 61 = .ok (.iastore, 1) := by decide +kernel
theorem dM_init_62 : decode cM_init 62 = .ok (.aload_n 0, 1) := by decide +kernel
theorem dM_init_63 : decode cM_init 63 = .ok (.invokevirtual 30, 3) := by decide +kernel
theorem dM_init_66 : decode cM_init 66 = .ok (.return_, 1) := by decide +kernel
theorem wd_640 : (.methodLink "DrawingVault$Content" 3 ⟨"java/lang/Object", "<init>", "()V"⟩ : Cond) ∈ aw := aw_in (tb_2 (List.mem_of_getElem? (i := 136) rfl)) rfl
theorem wd_641 : (.arrayClass .long : Cond) ∈ aw := aw_in (tb_1 (List.mem_of_getElem? (i := 68) rfl)) rfl
theorem wd_642 : (.arrayClass .int : Cond) ∈ aw := aw_in (tb_1 (List.mem_of_getElem? (i := 50) rfl)) rfl
theorem wd_643 : (.methodLink "DrawingVault$Baseline" 3 ⟨"java/lang/Object", "<init>", "()V"⟩ : Cond) ∈ aw := aw_in (tb_1 (List.mem_of_getElem? (i := 33) rfl)) rfl
theorem wd_644 : (.methodLink "DrawingVault$Pages" 3 ⟨"java/lang/Object", "<init>", "()V"⟩ : Cond) ∈ aw := aw_in (tb_1 (List.mem_of_getElem? (i := 75) rfl)) rfl
theorem wd_645 : (.methodLink "DrawingVault$ChunkSet" 3 ⟨"java/lang/Object", "<init>", "()V"⟩ : Cond) ∈ aw := aw_in (tb_1 (List.mem_of_getElem? (i := 56) rfl)) rfl
theorem wd_646 : (.arrayClass .byte : Cond) ∈ aw := aw_in (tb_1 (List.mem_of_getElem? (i := 69) rfl)) rfl
theorem wd_647 : (.methodLink "DrawingVault$Revision" 3 ⟨"java/lang/Object", "<init>", "()V"⟩ : Cond) ∈ aw := aw_in (tb_2 (List.mem_of_getElem? (i := 187) rfl)) rfl
theorem wd_648 : (.classLink "DrawingVault$Revision" 9 "DrawingVault$Content" : Cond) ∈ aw := aw_in (tb_2 (List.mem_of_getElem? (i := 188) rfl)) rfl
theorem wd_649 : (.instantiable "DrawingVault$Content" 5 : Cond) ∈ aw := aw_in (tb_2 (List.mem_of_getElem? (i := 132) rfl)) rfl
theorem wd_650 : (.code ⟨"DrawingVault$Content", "<init>", "()V"⟩ prog_4_method_1_code 1 (Option.none : Option Jvm.ClassFile.FieldType) : Cond) ∈ aw := aw_in (tb_2 (List.mem_of_getElem? (i := 135) rfl)) rfl
theorem wd_651 : (.instanceMethod ⟨"DrawingVault$Content", "<init>", "()V"⟩ : Cond) ∈ aw := aw_in (tb_2 (List.mem_of_getElem? (i := 134) rfl)) rfl
theorem wd_652 : (.fieldLink "DrawingVault$Revision" 12 "DrawingVault$Revision" "content" "LDrawingVault$Content;" : Cond) ∈ aw := aw_in (tb_2 (List.mem_of_getElem? (i := 190) rfl)) rfl
theorem wd_653 : (.fieldLink "DrawingVault$Revision" 18 "DrawingVault$Revision" "state" "I" : Cond) ∈ aw := aw_in (tb_2 (List.mem_of_getElem? (i := 195) rfl)) rfl
theorem wd_654 : (.fieldLink "DrawingVault$Revision" 22 "DrawingVault$Revision" "author" "I" : Cond) ∈ aw := aw_in (tb_2 (List.mem_of_getElem? (i := 193) rfl)) rfl
theorem wd_655 : (.methodLink "DrawingVault$Drawing" 3 ⟨"java/lang/Object", "<init>", "()V"⟩ : Cond) ∈ aw := aw_in (tb_2 (List.mem_of_getElem? (i := 128) rfl)) rfl
theorem wd_656 : (.classLink "DrawingVault$Drawing" 9 "DrawingVault$Revision" : Cond) ∈ aw := aw_in (tb_2 (List.mem_of_getElem? (i := 129) rfl)) rfl
theorem wd_657 : (.classLink "DrawingVault$Drawing" 21 "DrawingVault$Content" : Cond) ∈ aw := aw_in (tb_2 (List.mem_of_getElem? (i := 131) rfl)) rfl
theorem wd_658 : (.fieldLink "DrawingVault$Drawing" 28 "DrawingVault$Drawing" "written" "LDrawingVault$Content;" : Cond) ∈ aw := aw_in (tb_2 (List.mem_of_getElem? (i := 166) rfl)) rfl
theorem wd_659 : (.methodLink "DrawingVault" 3 ⟨"java/lang/Object", "<init>", "()V"⟩ : Cond) ∈ aw := aw_in (tb_1 (List.mem_of_getElem? (i := 22) rfl)) rfl
theorem wd_660 : (.classLink "DrawingVault" 13 "DrawingVault$Drawing" : Cond) ∈ aw := aw_in (tb_1 (List.mem_of_getElem? (i := 25) rfl)) rfl
theorem wd_661 : (.classLink "DrawingVault" 19 "DrawingVault$Baseline" : Cond) ∈ aw := aw_in (tb_1 (List.mem_of_getElem? (i := 27) rfl)) rfl
theorem wd_662 : (.instantiable "DrawingVault$Baseline" 3 : Cond) ∈ aw := aw_in (tb_1 (List.mem_of_getElem? (i := 29) rfl)) rfl
theorem wd_663 : (.code ⟨"DrawingVault$Baseline", "<init>", "()V"⟩ prog_2_method_1_code 1 (Option.none : Option Jvm.ClassFile.FieldType) : Cond) ∈ aw := aw_in (tb_1 (List.mem_of_getElem? (i := 32) rfl)) rfl
theorem wd_664 : (.methodLink "DrawingVault" 25 ⟨"DrawingVault$Baseline", "<init>", "()V"⟩ : Cond) ∈ aw := aw_in (tb_1 (List.mem_of_getElem? (i := 30) rfl)) rfl
theorem wd_665 : (.instanceMethod ⟨"DrawingVault$Baseline", "<init>", "()V"⟩ : Cond) ∈ aw := aw_in (tb_1 (List.mem_of_getElem? (i := 31) rfl)) rfl
theorem wd_666 : (.classLink "DrawingVault" 30 "DrawingVault$ChunkSet" : Cond) ∈ aw := aw_in (tb_1 (List.mem_of_getElem? (i := 51) rfl)) rfl
theorem wd_667 : (.instantiable "DrawingVault$ChunkSet" 3 : Cond) ∈ aw := aw_in (tb_1 (List.mem_of_getElem? (i := 52) rfl)) rfl
theorem wd_668 : (.code ⟨"DrawingVault$ChunkSet", "<init>", "()V"⟩ prog_3_method_1_code 1 (Option.none : Option Jvm.ClassFile.FieldType) : Cond) ∈ aw := aw_in (tb_1 (List.mem_of_getElem? (i := 55) rfl)) rfl
theorem wd_669 : (.instanceMethod ⟨"DrawingVault$ChunkSet", "<init>", "()V"⟩ : Cond) ∈ aw := aw_in (tb_1 (List.mem_of_getElem? (i := 54) rfl)) rfl
theorem wd_670 : (.classLink "DrawingVault" 37 "DrawingVault$Pages" : Cond) ∈ aw := aw_in (tb_1 (List.mem_of_getElem? (i := 70) rfl)) rfl
theorem wd_671 : (.instantiable "DrawingVault$Pages" 6 : Cond) ∈ aw := aw_in (tb_1 (List.mem_of_getElem? (i := 71) rfl)) rfl
theorem wd_672 : (.code ⟨"DrawingVault$Pages", "<init>", "()V"⟩ prog_6_method_1_code 1 (Option.none : Option Jvm.ClassFile.FieldType) : Cond) ∈ aw := aw_in (tb_1 (List.mem_of_getElem? (i := 74) rfl)) rfl
theorem wd_673 : (.instanceMethod ⟨"DrawingVault$Pages", "<init>", "()V"⟩ : Cond) ∈ aw := aw_in (tb_1 (List.mem_of_getElem? (i := 73) rfl)) rfl
theorem wd_674 : (.methodLink "DrawingVaultModel" 1 ⟨"java/lang/Object", "<init>", "()V"⟩ : Cond) ∈ aw := aw_in (tb_4 (List.mem_of_getElem? (i := 25) rfl)) rfl
theorem wd_675 : (.arrayClass .boolean : Cond) ∈ aw := aw_in (tb_4 (List.mem_of_getElem? (i := 64) rfl)) rfl

theorem nlt_of {a b : Nat} (h : ¬ nI b ≤ nI a) (ha : a < 2 ^ 31) : a < b := by
  rcases Nat.lt_or_ge a b with q | q
  · exact q
  · exact absurd (nI_le q ha) h
theorem nle_of {a b : Nat} (h : nI b ≤ nI a) (ha : a < 2 ^ 31) (hb : b < 2 ^ 31) : b ≤ a := (nI_leI hb ha).mp h

/-- the first i places hold v -/
def c_fl {α : Type} (f : Nat → α) (v : α) (i : Nat) : Nat → α := fun j => if j < i then v else f j
theorem c_fl_0 {α : Type} (f : Nat → α) (v : α) : f = c_fl f v 0 := by
  funext j
  unfold c_fl
  rw [if_neg (by omega)]
theorem c_fl_s {f g : Nat → Int32} {v : Int32} {i : Nat} (hi : i < 2 ^ 31) (h : g = c_fl f v i) : upd g (nI i).toNatClampNeg v = c_fl f v (i + 1) := by
  subst h
  rw [nI_clamp hi]
  funext j
  unfold upd c_fl
  by_cases e : j = i
  · rw [if_pos e, if_pos (by omega)]
  · rw [if_neg e]
    by_cases e2 : j < i
    · rw [if_pos e2, if_pos (by omega)]
    · rw [if_neg e2, if_neg (by omega)]
theorem c_fl_sL {f g : Nat → Int64} {v : Int64} {i : Nat} (hi : i < 2 ^ 31) (h : g = c_fl f v i) : vp_updL g (nI i).toNatClampNeg v = c_fl f v (i + 1) := by
  subst h
  rw [nI_clamp hi]
  funext j
  unfold vp_updL c_fl
  by_cases e : j = i
  · rw [if_pos e, if_pos (by omega)]
  · rw [if_neg e]
    by_cases e2 : j < i
    · rw [if_pos e2, if_pos (by omega)]
    · rw [if_neg e2, if_neg (by omega)]

theorem m_keep_s {f g : Nat → Int32} {i : Nat} (hi : i < 2 ^ 31) (h : ∀ j, j < i → g j = f j) : ∀ j, j < i + 1 → upd g (nI i).toNatClampNeg (f i) j = f j := by
  intro j hj
  rw [nI_clamp hi]
  by_cases e : j = i
  · subst e; exact pk_us
  · rw [pk_un e]; exact h j (by omega)

set_option maxHeartbeats 4000000 in
set_option maxRecDepth 100000 in
theorem ga_fillI (l : Launch) (dC : Nat → ClassId) (dI : Nat → Nat → Nat) (sz : Nat) (ar : Nat) (cF : ClassId) (fa : Nat → Int32) (va : Int32) : Met l yA_fillI (.code yA_fillI cA_fillI 4 none :: aw) ({ frames := 0, cells := 0, slots := 0, locals := 0 }) (pW (dC, dI) sz [(ar, .inl (cF, 24, .inl fa))] [(cF, .int)] [.ref ar, .int va]) (va_Qv (fun (_ : Unit) => True) (fun _ t => wW (dC, dI) (va_A [(ar, .inl (cF, 24, .inl fa))] sz) [(ar, .inl (cF, 24, .inl (c_fl fa va 24)))] [(cF, .int)] t) (va_A [(ar, .inl (cF, 24, .inl fa))] sz)) 0 0 (va_A [(ar, .inl (cF, 24, .inl fa))] sz) := by
  refine Met.ofW (cc := cA_fillI) (maxL := 4) (ret := none) (by decide) rfl ?_
  intro p e s m args below meth c s₁ B hml hv
  obtain ⟨rfl, hv⟩ := hv
  have hx := B.exec
  have hb := B.bytes
  have hr := B.returns
  have hts : ∀ w ∈ aw, w.before _ s = true := fun w h => atoms_spec (ws := (.code yA_fillI cA_fillI 4 none :: aw)) B.pre w (List.mem_cons_of_mem _ h)
  have hown : s.vm.findClass RA = some m.cls := findClass_of_methodNamed B.named
  have hlocks := B.notSynchronized
  obtain ⟨hsz, hP, hK, hD0, hG⟩ := hv
  subst hsz
  have hD := hD0.self (sz := s.heap.size)
  generalize hAe : va_A [(ar, .inl (cF, 24, .inl fa))] s.heap.size = A at hD ⊢
  have hA : ∀ q : Nat, s.heap.size ≤ q → A q := fun q h => by rw [← hAe]; exact Or.inr h
  obtain ⟨H, hH⟩ : ∃ H, H = s.heap := ⟨_, rfl⟩
  have hS : va_S A s.heap H [] := by rw [hH]; exact va_S.rf
  rw [← hH] at hP ⊢
  have hP : va_P (dC, dI) kCl [(ar, .inl (cF, 24, .inl fa))] H := hP
  have hl := lv_entry ([.ref ar, .int va]) (n := 4) (Nat.le_of_ble_eq_true rfl)
  rw [lg_entry_eq]
  generalize (lg_sl ([.ref ar, .int va]) ++ List.replicate (4 - (lg_sl ([.ref ar, .int va])).length) Slot.unset).toArray = ls at hl ⊢
  have hl : lv_has ls 4 [(0, .ref ar), (1, .int va)] := hl
  refine lv_iconst (pc := 0) (v := 0) hx hb dA_fillI_0 (by decide) ?_
  refine lv_istore_n (pc := 1) hx hb dA_fillI_1 rfl hl (by decide) rfl (fun ls hl => ?_)
  have hl : lv_has ls 4 [(2, .int 0), (0, .ref ar), (1, .int va)] := hl
  refine lv_aload_n (pc := 2) hx hb dA_fillI_2 rfl (lv_at hl 1 rfl) ?_
  refine va_alen (D := (dC, dI)) (cl := kCl) (pc := 3) (v := 24) hx hb hK hP 0 0 rfl rfl rfl dA_fillI_3 ?_
  refine lv_istore_n (pc := 4) hx hb dA_fillI_4 rfl hl (by decide) rfl (fun ls hl => ?_)
  have hl : lv_has ls 4 [(3, .int 24), (2, .int 0), (0, .ref ar), (1, .int va)] := hl
  refine lpM (σ := (Nat) × (Nat → Int32) × (Heap) × (List Loc) × (Array Slot)) (fun z => W p l e _ s m _ below meth c z.2.2.1 z.2.2.2.1 0 0 _ (F0 m 5 z.2.2.2.2 [])) (fun z => va_P (dC, dI) kCl [(ar, .inl (cF, 24, .inl z.2.1))] z.2.2.1 ∧ va_D A [(ar, .inl (cF, 24, .inl z.2.1))] ∧ va_S A s.heap z.2.2.1 z.2.2.2.1 ∧ lv_has z.2.2.2.2 4 [(3, .int 24), (2, .int (nI z.1)), (0, .ref ar), (1, .int va)] ∧ (z.1 ≤ 24) ∧ (z.2.1 = c_fl fa va z.1)) (fun z => 24 - z.1) ?_ (0, fa, H, _, ls) ⟨hP, hD, hS, hl, Nat.zero_le _, c_fl_0 _ _⟩
  rintro ⟨i, g1, H, locs, ls⟩ ⟨hP, hD, hS, hl, hi, hg1⟩ ih
  try dsimp only at hP hD hS hl hi hg1 ih ⊢
  have hP : va_P (dC, dI) kCl [(ar, .inl (cF, 24, .inl g1))] H := hP
  have hD : va_D A [(ar, .inl (cF, 24, .inl g1))] := hD
  have hl : lv_has ls 4 [(3, .int 24), (2, .int (nI i)), (0, .ref ar), (1, .int va)] := hl
  have hi : i ≤ 24 := hi
  have hg1 : g1 = c_fl fa va i := hg1
  refine lv_iload_n (pc := 5) hx hb dA_fillI_5 rfl (lv_at hl 1 rfl) ?_
  refine lv_iload_n (pc := 6) hx hb dA_fillI_6 rfl (lv_at hl 0 rfl) ?_
  refine lv_icmp_ge (pc := 7) (tgt := 20) hx hb dA_fillI_7 rfl (fun h1 => ?_) (fun h1 => ?_)
  · obtain rfl : i = 24 := by have := nle_of (b := 24) h1 (by omega) (by omega); omega
    subst hg1
    have hP : va_P (dC, dI) kCl [(ar, .inl (cF, 24, .inl (c_fl fa va 24)))] H := hP
    have hD : va_D A [(ar, .inl (cF, 24, .inl (c_fl fa va 24)))] := hD
    have hP9 := hP.sub (ws' := [(ar, .inl (cF, 24, .inl (c_fl fa va 24)))]) [0] rfl
    have hD9 := hD.sub (ws' := [(ar, .inl (cF, 24, .inl (c_fl fa va 24)))]) [0] (by decide) rfl
    have hK9 := hK.sub (tys' := [(cF, .int)]) [0] rfl
    exact W.vret (pc := 20) hx hb hr (fun t ht hW => ⟨⟨(), rfl, trivial, by rw [ht]; exact hP9, va_K.moved hW.alike hK9, hD9⟩, hS.F ht⟩) hS.2.2 dA_fillI_20
  · refine lv_aload_n (pc := 10) hx hb dA_fillI_10 rfl (lv_at hl 2 rfl) ?_
    refine lv_iload_n (pc := 11) hx hb dA_fillI_11 rfl (lv_at hl 1 rfl) ?_
    refine lv_iload_n (pc := 12) hx hb dA_fillI_12 rfl (lv_at hl 3 rfl) ?_
    refine va_iast (D := (dC, dI)) (cl := kCl) (pc := 13) hx hb hK hP hD hS 0 0 rfl rfl (vp_in_nI (nlt_of (b := 24) h1 (by omega)) (by decide)) dA_fillI_13 (fun H locs hP hD hS => ?_)
    have hP : va_P (dC, dI) kCl [(ar, .inl (cF, 24, .inl (upd g1 ((nI i) : Int32).toNatClampNeg va)))] H := hP
    have hD : va_D A [(ar, .inl (cF, 24, .inl (upd g1 ((nI i) : Int32).toNatClampNeg va)))] := hD
    refine lv_iinc (pc := 14) (v := (nI (i + 1))) hx hb dA_fillI_14 hl (k := 1) rfl (nI_1 _) (by decide) rfl (fun ls hl => ?_)
    have hl : lv_has ls 4 [(2, .int (nI (i + 1))), (3, .int 24), (0, .ref ar), (1, .int va)] := hl
    refine lv_goto (pc := 17) (tgt := 5) hx hb dA_fillI_17 rfl ?_
    have hl := lv_sub hl (l' := [(3, .int 24), (2, .int (nI (i + 1))), (0, .ref ar), (1, .int va)]) [1, 0, 2, 3] rfl
    exact ih (i + 1, _, H, _, ls) ⟨hP, hD, hS, hl, (nlt_of (b := 24) h1 (by omega)), c_fl_s (by omega) hg1⟩ (by have := nlt_of (b := 24) h1 (by omega); omega)
set_option maxHeartbeats 4000000 in
set_option maxRecDepth 100000 in
theorem c_init (l : Launch) (dC : Nat → ClassId) (dI : Nat → Nat → Nat) (sz : Nat) (ct : Nat) : Met l yC_init (.code yC_init cC_init 1 none :: aw) ({ frames := 1, cells := 3, slots := 20, locals := 12 }) (pW (dC, dI) sz [(ct, .inr (5, [.null, .int 0, .null, .null, .int 0]))] [] [.ref ct]) (va_Qv (fun (_ : Unit) => True) (fun _ t => ∃ (pc9 : Nat) (tg : Nat) (fx : Nat) (cP : ClassId) (cT : ClassId) (cX : ClassId), wW (dC, dI) (va_A [(ct, .inr (5, [.null, .int 0, .null, .null, .int 0]))] sz) [(ct, .inr (5, [.ref pc9, .int 0, .ref tg, .ref fx, .int 0])), (pc9, .inl (cP, 8, .inr (.inl (fun _ => 0)))), (tg, .inl (cT, 6, .inl (fun _ => 0))), (fx, .inl (cX, 6, .inl (fun _ => 0)))] [(cP, .long), (cT, .int), (cX, .int)] t) (va_A [(ct, .inr (5, [.null, .int 0, .null, .null, .int 0]))] sz)) 3 20 (va_A [(ct, .inr (5, [.null, .int 0, .null, .null, .int 0]))] sz) := by
  refine Met.ofW (cc := cC_init) (maxL := 1) (ret := none) (by decide) rfl ?_
  intro p e s m args below meth c s₁ B hml hv
  obtain ⟨rfl, hv⟩ := hv
  have hx := B.exec
  have hb := B.bytes
  have hr := B.returns
  have hts : ∀ w ∈ aw, w.before _ s = true := fun w h => atoms_spec (ws := (.code yC_init cC_init 1 none :: aw)) B.pre w (List.mem_cons_of_mem _ h)
  have hown : s.vm.findClass RC = some m.cls := findClass_of_methodNamed B.named
  have hlocks := B.notSynchronized
  have hin : meth.name = "<init>" := (name_of_methodNamed B.named B.method).1
  obtain ⟨hsz, hP, hK, hD0, hG⟩ := hv
  subst hsz
  have hD := hD0.self (sz := s.heap.size)
  generalize hAe : va_A [(ct, .inr (5, [.null, .int 0, .null, .null, .int 0]))] s.heap.size = A at hD ⊢
  have hA : ∀ q : Nat, s.heap.size ≤ q → A q := fun q h => by rw [← hAe]; exact Or.inr h
  obtain ⟨H, hH⟩ : ∃ H, H = s.heap := ⟨_, rfl⟩
  have hS : va_S A s.heap H [] := by rw [hH]; exact va_S.rf
  rw [← hH] at hP ⊢
  have hP : va_P (dC, dI) kCl [(ct, .inr (5, [.null, .int 0, .null, .null, .int 0]))] H := hP
  have hl := lv_entry ([.ref ct]) (n := 1) (Nat.le_of_ble_eq_true rfl)
  rw [lg_entry_eq]
  generalize (lg_sl ([.ref ct]) ++ List.replicate (1 - (lg_sl ([.ref ct])).length) Slot.unset).toArray = ls at hl ⊢
  have hl : lv_has ls 1 [(0, .ref ct)] := hl
  refine lv_aload_n (pc := 0) hx hb dC_init_0 rfl (lv_at hl 0 rfl) ?_
  refine W.objInit hx hb hown (hts _ wd_640) (hts _ wd_590) (hts _ wd_591) rfl (by rw [hml]; exact hl.1) rfl dC_init_1 (Nat.le_of_ble_eq_true rfl) (Nat.le_of_ble_eq_true rfl) ?_
  refine W.eq (g2 := F0 m 4 ls []) rfl ?_
  refine lv_aload_n (pc := 4) hx hb dC_init_4 rfl (lv_at hl 0 rfl) ?_
  refine lv_bipush (pc := 5) (v := 8) hx hb dC_init_5 (by decide) ?_
  refine va_newa (atype := .long) (D := (dC, dI)) (cl := kCl) (pc := 7) (ty := .long) (n := 8) (N' := 8) (a0 := (8, .inr (.inl (fun _ => 0)))) hx hb (hts _ wd_641) rfl hK hP hD hS hA (fun cA => rfl) (by decide) (by decide) (by decide) (Nat.le_of_ble_eq_true rfl) (Nat.le_of_ble_eq_true rfl) dC_init_7 (fun q1 cA2 H hK hP hD hS => ?_)
  have hP : va_P (dC, dI) kCl [(ct, .inr (5, [.null, .int 0, .null, .null, .int 0])), (q1, .inl (cA2, 8, .inr (.inl (fun _ => 0))))] H := hP
  have hD : va_D A [(ct, .inr (5, [.null, .int 0, .null, .null, .int 0])), (q1, .inl (cA2, 8, .inr (.inl (fun _ => 0))))] := hD
  have hK : va_K (dC, dI) kCl [(cA2, .long)] s := hK
  refine W.widen (k := 1) (n := 8) (Nat.le_of_ble_eq_true rfl) (Nat.le_of_ble_eq_true rfl) ?_
  refine va_putF (D := (dC, dI)) (cl := kCl) (ci := 5) (v := .ref q1) (ty := (.array .long)) (C := RC) (T := TC) (N := 5) (pc := 9) hx hb hts inC tyC tyC_ok nmC hown hK hP hD hS 0 rfl rfl 0 (by decide) (hts _ wd_224) (fun _ h9 => h9) rfl hin rfl (by decide +kernel) rfl rfl (Nat.le_of_ble_eq_true rfl) dC_init_9 (fun H locs hP hD hS => ?_)
  have hP : va_P (dC, dI) kCl [(ct, .inr (5, [.ref q1, .int 0, .null, .null, .int 0])), (q1, .inl (cA2, 8, .inr (.inl (fun _ => 0))))] H := hP
  have hD : va_D A [(ct, .inr (5, [.ref q1, .int 0, .null, .null, .int 0])), (q1, .inl (cA2, 8, .inr (.inl (fun _ => 0))))] := hD
  refine lv_aload_n (pc := 12) hx hb dC_init_12 rfl (lv_at hl 0 rfl) ?_
  refine lv_bipush (pc := 13) (v := 6) hx hb dC_init_13 (by decide) ?_
  refine va_newa (atype := .int) (D := (dC, dI)) (cl := kCl) (pc := 15) (ty := .int) (n := 6) (N' := 6) (a0 := (6, .inl (fun _ => 0))) hx hb (hts _ wd_642) rfl hK hP hD hS hA (fun cA => rfl) (by decide) (by decide) (by decide) (Nat.le_of_ble_eq_true rfl) (Nat.le_of_ble_eq_true rfl) dC_init_15 (fun q3 cA4 H hK hP hD hS => ?_)
  have hP : va_P (dC, dI) kCl [(ct, .inr (5, [.ref q1, .int 0, .null, .null, .int 0])), (q1, .inl (cA2, 8, .inr (.inl (fun _ => 0)))), (q3, .inl (cA4, 6, .inl (fun _ => 0)))] H := hP
  have hD : va_D A [(ct, .inr (5, [.ref q1, .int 0, .null, .null, .int 0])), (q1, .inl (cA2, 8, .inr (.inl (fun _ => 0)))), (q3, .inl (cA4, 6, .inl (fun _ => 0)))] := hD
  have hK : va_K (dC, dI) kCl [(cA2, .long), (cA4, .int)] s := hK
  refine W.widen (k := 2) (n := 14) (Nat.le_of_ble_eq_true rfl) (Nat.le_of_ble_eq_true rfl) ?_
  refine va_putF (D := (dC, dI)) (cl := kCl) (ci := 5) (v := .ref q3) (ty := (.array .int)) (C := RC) (T := TC) (N := 5) (pc := 17) hx hb hts inC tyC tyC_ok nmC hown hK hP hD hS 0 rfl rfl 2 (by decide) (hts _ wd_247) (fun _ h9 => h9) rfl hin rfl (by decide +kernel) rfl rfl (Nat.le_of_ble_eq_true rfl) dC_init_17 (fun H locs hP hD hS => ?_)
  have hP : va_P (dC, dI) kCl [(ct, .inr (5, [.ref q1, .int 0, .ref q3, .null, .int 0])), (q1, .inl (cA2, 8, .inr (.inl (fun _ => 0)))), (q3, .inl (cA4, 6, .inl (fun _ => 0)))] H := hP
  have hD : va_D A [(ct, .inr (5, [.ref q1, .int 0, .ref q3, .null, .int 0])), (q1, .inl (cA2, 8, .inr (.inl (fun _ => 0)))), (q3, .inl (cA4, 6, .inl (fun _ => 0)))] := hD
  refine lv_aload_n (pc := 20) hx hb dC_init_20 rfl (lv_at hl 0 rfl) ?_
  refine lv_bipush (pc := 21) (v := 6) hx hb dC_init_21 (by decide) ?_
  refine va_newa (atype := .int) (D := (dC, dI)) (cl := kCl) (pc := 23) (ty := .int) (n := 6) (N' := 6) (a0 := (6, .inl (fun _ => 0))) hx hb (hts _ wd_642) rfl hK hP hD hS hA (fun cA => rfl) (by decide) (by decide) (by decide) (Nat.le_of_ble_eq_true rfl) (Nat.le_of_ble_eq_true rfl) dC_init_23 (fun q5 cA6 H hK hP hD hS => ?_)
  have hP : va_P (dC, dI) kCl [(ct, .inr (5, [.ref q1, .int 0, .ref q3, .null, .int 0])), (q1, .inl (cA2, 8, .inr (.inl (fun _ => 0)))), (q3, .inl (cA4, 6, .inl (fun _ => 0))), (q5, .inl (cA6, 6, .inl (fun _ => 0)))] H := hP
  have hD : va_D A [(ct, .inr (5, [.ref q1, .int 0, .ref q3, .null, .int 0])), (q1, .inl (cA2, 8, .inr (.inl (fun _ => 0)))), (q3, .inl (cA4, 6, .inl (fun _ => 0))), (q5, .inl (cA6, 6, .inl (fun _ => 0)))] := hD
  have hK : va_K (dC, dI) kCl [(cA2, .long), (cA4, .int), (cA6, .int)] s := hK
  refine W.widen (k := 3) (n := 20) (Nat.le_of_ble_eq_true rfl) (Nat.le_of_ble_eq_true rfl) ?_
  refine va_putF (D := (dC, dI)) (cl := kCl) (ci := 5) (v := .ref q5) (ty := (.array .int)) (C := RC) (T := TC) (N := 5) (pc := 25) hx hb hts inC tyC tyC_ok nmC hown hK hP hD hS 0 rfl rfl 3 (by decide) (hts _ wd_248) (fun _ h9 => h9) rfl hin rfl (by decide +kernel) rfl rfl (Nat.le_of_ble_eq_true rfl) dC_init_25 (fun H locs hP hD hS => ?_)
  have hP : va_P (dC, dI) kCl [(ct, .inr (5, [.ref q1, .int 0, .ref q3, .ref q5, .int 0])), (q1, .inl (cA2, 8, .inr (.inl (fun _ => 0)))), (q3, .inl (cA4, 6, .inl (fun _ => 0))), (q5, .inl (cA6, 6, .inl (fun _ => 0)))] H := hP
  have hD : va_D A [(ct, .inr (5, [.ref q1, .int 0, .ref q3, .ref q5, .int 0])), (q1, .inl (cA2, 8, .inr (.inl (fun _ => 0)))), (q3, .inl (cA4, 6, .inl (fun _ => 0))), (q5, .inl (cA6, 6, .inl (fun _ => 0)))] := hD
  have hP9 := hP.sub (ws' := [(ct, .inr (5, [.ref q1, .int 0, .ref q3, .ref q5, .int 0])), (q1, .inl (cA2, 8, .inr (.inl (fun _ => 0)))), (q3, .inl (cA4, 6, .inl (fun _ => 0))), (q5, .inl (cA6, 6, .inl (fun _ => 0)))]) [0, 1, 2, 3] rfl
  have hD9 := hD.sub (ws' := [(ct, .inr (5, [.ref q1, .int 0, .ref q3, .ref q5, .int 0])), (q1, .inl (cA2, 8, .inr (.inl (fun _ => 0)))), (q3, .inl (cA4, 6, .inl (fun _ => 0))), (q5, .inl (cA6, 6, .inl (fun _ => 0)))]) [0, 1, 2, 3] (by decide) rfl
  have hK9 := hK.sub (tys' := [(cA2, .long), (cA4, .int), (cA6, .int)]) [0, 1, 2] rfl
  exact W.vret (pc := 28) hx hb hr (fun t ht hW => ⟨⟨(), rfl, trivial, q1, q3, q5, cA2, cA4, cA6, by rw [ht]; exact hP9, va_K.moved hW.alike hK9, hD9⟩, hS.F ht⟩) hS.2.2 dC_init_28
set_option maxHeartbeats 4000000 in
set_option maxRecDepth 100000 in
theorem gb_init (l : Launch) (dC : Nat → ClassId) (dI : Nat → Nat → Nat) (sz : Nat) (df : Nat) : Met l yB_init (.code yB_init cB_init 1 none :: aw) ({ frames := 1, cells := 2, slots := 48, locals := 23 }) (pW (dC, dI) sz [(df, .inr (1, [.null, .null, .int 0]))] [] [.ref df]) (va_Qv (fun (_ : Unit) => True) (fun _ t => ∃ (dv : Nat) (do9 : Nat) (cF : ClassId) (cO : ClassId), wW (dC, dI) (va_A [(df, .inr (1, [.null, .null, .int 0]))] sz) [(df, .inr (1, [.ref dv, .ref do9, .int 0])), (dv, .inl (cF, 24, .inl (c_fl (fun _ => 0) (-1) 24))), (do9, .inl (cO, 24, .inl (fun _ => 0)))] [(cF, .int), (cO, .int)] t) (va_A [(df, .inr (1, [.null, .null, .int 0]))] sz)) 2 48 (va_A [(df, .inr (1, [.null, .null, .int 0]))] sz) := by
  refine Met.ofW (cc := cB_init) (maxL := 1) (ret := none) (by decide) rfl ?_
  intro p e s m args below meth c s₁ B hml hv
  obtain ⟨rfl, hv⟩ := hv
  have hx := B.exec
  have hb := B.bytes
  have hr := B.returns
  have hts : ∀ w ∈ aw, w.before _ s = true := fun w h => atoms_spec (ws := (.code yB_init cB_init 1 none :: aw)) B.pre w (List.mem_cons_of_mem _ h)
  have hown : s.vm.findClass RB = some m.cls := findClass_of_methodNamed B.named
  have hlocks := B.notSynchronized
  have hin : meth.name = "<init>" := (name_of_methodNamed B.named B.method).1
  obtain ⟨hsz, hP, hK, hD0, hG⟩ := hv
  subst hsz
  have hD := hD0.self (sz := s.heap.size)
  generalize hAe : va_A [(df, .inr (1, [.null, .null, .int 0]))] s.heap.size = A at hD ⊢
  have hA : ∀ q : Nat, s.heap.size ≤ q → A q := fun q h => by rw [← hAe]; exact Or.inr h
  obtain ⟨H, hH⟩ : ∃ H, H = s.heap := ⟨_, rfl⟩
  have hS : va_S A s.heap H [] := by rw [hH]; exact va_S.rf
  rw [← hH] at hP ⊢
  have hP : va_P (dC, dI) kCl [(df, .inr (1, [.null, .null, .int 0]))] H := hP
  have hl := lv_entry ([.ref df]) (n := 1) (Nat.le_of_ble_eq_true rfl)
  rw [lg_entry_eq]
  generalize (lg_sl ([.ref df]) ++ List.replicate (1 - (lg_sl ([.ref df])).length) Slot.unset).toArray = ls at hl ⊢
  have hl : lv_has ls 1 [(0, .ref df)] := hl
  refine lv_aload_n (pc := 0) hx hb dB_init_0 rfl (lv_at hl 0 rfl) ?_
  refine W.objInit hx hb hown (hts _ wd_643) (hts _ wd_590) (hts _ wd_591) rfl (by rw [hml]; exact hl.1) rfl dB_init_1 (Nat.le_of_ble_eq_true rfl) (Nat.le_of_ble_eq_true rfl) ?_
  refine W.eq (g2 := F0 m 4 ls []) rfl ?_
  refine lv_aload_n (pc := 4) hx hb dB_init_4 rfl (lv_at hl 0 rfl) ?_
  refine lv_bipush (pc := 5) (v := 24) hx hb dB_init_5 (by decide) ?_
  refine va_newa (atype := .int) (D := (dC, dI)) (cl := kCl) (pc := 7) (ty := .int) (n := 24) (N' := 24) (a0 := (24, .inl (fun _ => 0))) hx hb (hts _ wd_642) rfl hK hP hD hS hA (fun cA => rfl) (by decide) (by decide) (by decide) (Nat.le_of_ble_eq_true rfl) (Nat.le_of_ble_eq_true rfl) dB_init_7 (fun q1 cA2 H hK hP hD hS => ?_)
  have hP : va_P (dC, dI) kCl [(df, .inr (1, [.null, .null, .int 0])), (q1, .inl (cA2, 24, .inl (fun _ => 0)))] H := hP
  have hD : va_D A [(df, .inr (1, [.null, .null, .int 0])), (q1, .inl (cA2, 24, .inl (fun _ => 0)))] := hD
  have hK : va_K (dC, dI) kCl [(cA2, .int)] s := hK
  refine W.widen (k := 1) (n := 24) (Nat.le_of_ble_eq_true rfl) (Nat.le_of_ble_eq_true rfl) ?_
  refine va_putF (D := (dC, dI)) (cl := kCl) (ci := 1) (v := .ref q1) (ty := (.array .int)) (C := RB) (T := TB) (N := 3) (pc := 9) hx hb hts inB tyB tyB_ok nmB hown hK hP hD hS 0 rfl rfl 0 (by decide) (hts _ wd_284) (fun _ h9 => h9) rfl hin rfl (by decide +kernel) rfl rfl (Nat.le_of_ble_eq_true rfl) dB_init_9 (fun H locs hP hD hS => ?_)
  have hP : va_P (dC, dI) kCl [(df, .inr (1, [.ref q1, .null, .int 0])), (q1, .inl (cA2, 24, .inl (fun _ => 0)))] H := hP
  have hD : va_D A [(df, .inr (1, [.ref q1, .null, .int 0])), (q1, .inl (cA2, 24, .inl (fun _ => 0)))] := hD
  refine lv_aload_n (pc := 12) hx hb dB_init_12 rfl (lv_at hl 0 rfl) ?_
  refine lv_bipush (pc := 13) (v := 24) hx hb dB_init_13 (by decide) ?_
  refine va_newa (atype := .int) (D := (dC, dI)) (cl := kCl) (pc := 15) (ty := .int) (n := 24) (N' := 24) (a0 := (24, .inl (fun _ => 0))) hx hb (hts _ wd_642) rfl hK hP hD hS hA (fun cA => rfl) (by decide) (by decide) (by decide) (Nat.le_of_ble_eq_true rfl) (Nat.le_of_ble_eq_true rfl) dB_init_15 (fun q3 cA4 H hK hP hD hS => ?_)
  have hP : va_P (dC, dI) kCl [(df, .inr (1, [.ref q1, .null, .int 0])), (q1, .inl (cA2, 24, .inl (fun _ => 0))), (q3, .inl (cA4, 24, .inl (fun _ => 0)))] H := hP
  have hD : va_D A [(df, .inr (1, [.ref q1, .null, .int 0])), (q1, .inl (cA2, 24, .inl (fun _ => 0))), (q3, .inl (cA4, 24, .inl (fun _ => 0)))] := hD
  have hK : va_K (dC, dI) kCl [(cA2, .int), (cA4, .int)] s := hK
  refine W.widen (k := 2) (n := 48) (Nat.le_of_ble_eq_true rfl) (Nat.le_of_ble_eq_true rfl) ?_
  refine va_putF (D := (dC, dI)) (cl := kCl) (ci := 1) (v := .ref q3) (ty := (.array .int)) (C := RB) (T := TB) (N := 3) (pc := 17) hx hb hts inB tyB tyB_ok nmB hown hK hP hD hS 0 rfl rfl 1 (by decide) (hts _ wd_285) (fun _ h9 => h9) rfl hin rfl (by decide +kernel) rfl rfl (Nat.le_of_ble_eq_true rfl) dB_init_17 (fun H locs hP hD hS => ?_)
  have hP : va_P (dC, dI) kCl [(df, .inr (1, [.ref q1, .ref q3, .int 0])), (q1, .inl (cA2, 24, .inl (fun _ => 0))), (q3, .inl (cA4, 24, .inl (fun _ => 0)))] H := hP
  have hD : va_D A [(df, .inr (1, [.ref q1, .ref q3, .int 0])), (q1, .inl (cA2, 24, .inl (fun _ => 0))), (q3, .inl (cA4, 24, .inl (fun _ => 0)))] := hD
  refine lv_aload_n (pc := 20) hx hb dB_init_20 rfl (lv_at hl 0 rfl) ?_
  refine va_get (D := (dC, dI)) (cl := kCl) (C := RB) (T := TB) (N := 3) (pc := 21) hx hb hts inB hown hK hP 0 rfl rfl 0 (by decide) (hts _ wd_284) (fun _ h9 => h9) rfl dB_init_21 ?_
  refine lv_iconst (pc := 24) (v := (-1)) hx hb dB_init_24 (by decide) ?_
  have hPc := hP.sub (ws' := [(q1, .inl (cA2, 24, .inl (fun _ => 0)))]) [1] rfl
  have hDc := hD.sub (ws' := [(q1, .inl (cA2, 24, .inl (fun _ => 0)))]) [1] (by decide) rfl
  have hKc := hK.sub (tys' := [(cA2, .int)]) [0] rfl
  have hFc := va_free (wc := [(q1, .inl (cA2, 24, .inl (fun _ => 0)))]) hD hS hA [1] rfl
  refine va_callv (pc := 25) (va_runS (As := [.ref q1, .int (-1)]) (rest := []) ⟨hx, hb, hml, hown, hts⟩ (ga_fillI l dC dI H.size q1 cA2 (fun _ => 0) (-1)) (va_cwS 2 hts (gSU wd_468 wd_469 wd_462 wd_467) rfl rfl rfl (by decide +kernel) ⟨Nat.le_of_ble_eq_true rfl, Nat.le_of_ble_eq_true rfl⟩) ⟨pW_blind, pW_pre hPc hKc hDc hG⟩ rfl rfl hl.1 rfl (lv_room (Nat.le_of_ble_eq_true rfl)) dB_init_25 ⟨Nat.le_of_ble_eq_true rfl, Nat.le_of_ble_eq_true rfl⟩) hS (fun q _ h => hFc q h) hFc (fun u t H1 locs ht hvm hr6 hB hz1 hk1 hS => ?_)
  obtain ⟨hP1, hK1, hD1⟩ := hB
  rw [ht] at hP1
  have hK1 := va_K.moved hvm.symm hK1
  obtain ⟨hP, hD⟩ := va_join (wr := [(df, .inr (1, [.ref q1, .ref q3, .int 0])), (q3, .inl (cA4, 24, .inl (fun _ => 0)))]) (w1 := [(q1, .inl (cA2, 24, .inl (c_fl (fun _ => 0) (-1) 24)))]) hP hD [1] [0, 2] rfl rfl (by decide) (by decide) hk1 hFc hP1 hD1
  generalize H1 = H at hP hS ⊢
  have hP : va_P (dC, dI) kCl [(df, .inr (1, [.ref q1, .ref q3, .int 0])), (q3, .inl (cA4, 24, .inl (fun _ => 0))), (q1, .inl (cA2, 24, .inl (c_fl (fun _ => 0) (-1) 24)))] H := hP
  have hD : va_D A [(df, .inr (1, [.ref q1, .ref q3, .int 0])), (q3, .inl (cA4, 24, .inl (fun _ => 0))), (q1, .inl (cA2, 24, .inl (c_fl (fun _ => 0) (-1) 24)))] := hD
  refine W.widen (k := 2) (n := 48) (Nat.le_of_ble_eq_true rfl) (Nat.le_of_ble_eq_true rfl) ?_
  have hP9 := hP.sub (ws' := [(df, .inr (1, [.ref q1, .ref q3, .int 0])), (q1, .inl (cA2, 24, .inl (c_fl (fun _ => 0) (-1) 24))), (q3, .inl (cA4, 24, .inl (fun _ => 0)))]) [0, 2, 1] rfl
  have hD9 := hD.sub (ws' := [(df, .inr (1, [.ref q1, .ref q3, .int 0])), (q1, .inl (cA2, 24, .inl (c_fl (fun _ => 0) (-1) 24))), (q3, .inl (cA4, 24, .inl (fun _ => 0)))]) [0, 2, 1] (by decide) rfl
  have hK9 := hK.sub (tys' := [(cA2, .int), (cA4, .int)]) [0, 1] rfl
  exact W.vret (pc := 28) hx hb hr (fun t ht hW => ⟨⟨(), rfl, trivial, q1, q3, cA2, cA4, by rw [ht]; exact hP9, va_K.moved hW.alike hK9, hD9⟩, hS.F ht⟩) hS.2.2 dB_init_28
set_option maxHeartbeats 4000000 in
set_option maxRecDepth 100000 in
theorem gp_init (l : Launch) (dC : Nat → ClassId) (dI : Nat → Nat → Nat) (sz : Nat) (pg : Nat) : Met l yP_init (.code yP_init cP_init 1 none :: aw) ({ frames := 1, cells := 0, slots := 0, locals := 12 }) (pW (dC, dI) sz [(pg, .inr (3, [.int 0, .int 0, .int 0, .int 0, .int 0, .int 0]))] [] [.ref pg]) (va_Qv (fun (_ : Unit) => True) (fun _ t => wW (dC, dI) (va_A [(pg, .inr (3, [.int 0, .int 0, .int 0, .int 0, .int 0, .int 0]))] sz) [(pg, .inr (3, [.int 400, .int 0, .int 0, .int 0, .int 0, .int 0]))] [] t) (va_A [(pg, .inr (3, [.int 0, .int 0, .int 0, .int 0, .int 0, .int 0]))] sz)) 0 0 (va_A [(pg, .inr (3, [.int 0, .int 0, .int 0, .int 0, .int 0, .int 0]))] sz) := by
  refine Met.ofW (cc := cP_init) (maxL := 1) (ret := none) (by decide) rfl ?_
  intro p e s m args below meth c s₁ B hml hv
  obtain ⟨rfl, hv⟩ := hv
  have hx := B.exec
  have hb := B.bytes
  have hr := B.returns
  have hts : ∀ w ∈ aw, w.before _ s = true := fun w h => atoms_spec (ws := (.code yP_init cP_init 1 none :: aw)) B.pre w (List.mem_cons_of_mem _ h)
  have hown : s.vm.findClass RP = some m.cls := findClass_of_methodNamed B.named
  have hlocks := B.notSynchronized
  have hin : meth.name = "<init>" := (name_of_methodNamed B.named B.method).1
  obtain ⟨hsz, hP, hK, hD0, hG⟩ := hv
  subst hsz
  have hD := hD0.self (sz := s.heap.size)
  generalize hAe : va_A [(pg, .inr (3, [.int 0, .int 0, .int 0, .int 0, .int 0, .int 0]))] s.heap.size = A at hD ⊢
  have hA : ∀ q : Nat, s.heap.size ≤ q → A q := fun q h => by rw [← hAe]; exact Or.inr h
  obtain ⟨H, hH⟩ : ∃ H, H = s.heap := ⟨_, rfl⟩
  have hS : va_S A s.heap H [] := by rw [hH]; exact va_S.rf
  rw [← hH] at hP ⊢
  have hP : va_P (dC, dI) kCl [(pg, .inr (3, [.int 0, .int 0, .int 0, .int 0, .int 0, .int 0]))] H := hP
  have hl := lv_entry ([.ref pg]) (n := 1) (Nat.le_of_ble_eq_true rfl)
  rw [lg_entry_eq]
  generalize (lg_sl ([.ref pg]) ++ List.replicate (1 - (lg_sl ([.ref pg])).length) Slot.unset).toArray = ls at hl ⊢
  have hl : lv_has ls 1 [(0, .ref pg)] := hl
  refine lv_aload_n (pc := 0) hx hb dP_init_0 rfl (lv_at hl 0 rfl) ?_
  refine W.objInit hx hb hown (hts _ wd_644) (hts _ wd_590) (hts _ wd_591) rfl (by rw [hml]; exact hl.1) rfl dP_init_1 (Nat.le_of_ble_eq_true rfl) (Nat.le_of_ble_eq_true rfl) ?_
  refine W.eq (g2 := F0 m 4 ls []) rfl ?_
  refine lv_aload_n (pc := 4) hx hb dP_init_4 rfl (lv_at hl 0 rfl) ?_
  refine lv_sipush (pc := 5) (v := 400) hx hb dP_init_5 (by decide) ?_
  refine va_put (D := (dC, dI)) (cl := kCl) (ci := 3) (v := .int 400) (ty := .int) (C := RP) (T := TP) (N := 6) (pc := 8) hx hb hts inP tyP tyP_ok nmP hown hK hP hD hS 0 rfl rfl 0 (by decide) (hts _ wd_259) (fun _ h9 => h9) rfl (by decide +kernel) rfl rfl (Nat.le_of_ble_eq_true rfl) dP_init_8 (fun H locs hP hD hS => ?_)
  have hP : va_P (dC, dI) kCl [(pg, .inr (3, [.int 400, .int 0, .int 0, .int 0, .int 0, .int 0]))] H := hP
  have hD : va_D A [(pg, .inr (3, [.int 400, .int 0, .int 0, .int 0, .int 0, .int 0]))] := hD
  have hP9 := hP.sub (ws' := [(pg, .inr (3, [.int 400, .int 0, .int 0, .int 0, .int 0, .int 0]))]) [0] rfl
  have hD9 := hD.sub (ws' := [(pg, .inr (3, [.int 400, .int 0, .int 0, .int 0, .int 0, .int 0]))]) [0] (by decide) rfl
  have hK9 := hK.sub (tys' := []) [] rfl
  exact W.vret (pc := 11) hx hb hr (fun t ht hW => ⟨⟨(), rfl, trivial, by rw [ht]; exact hP9, va_K.moved hW.alike hK9, hD9⟩, hS.F ht⟩) hS.2.2 dP_init_11
set_option maxHeartbeats 4000000 in
set_option maxRecDepth 100000 in
theorem gk_init (l : Launch) (dC : Nat → ClassId) (dI : Nat → Nat → Nat) (sz : Nat) (ch : Nat) : Met l yK_init (.code yK_init cK_init 1 none :: aw) ({ frames := 1, cells := 2, slots := 1984, locals := 12 }) (pW (dC, dI) sz [(ch, .inr (2, [.null, .null, .int 0]))] [] [.ref ch]) (va_Qv (fun (_ : Unit) => True) (fun _ t => ∃ (cp : Nat) (cn : Nat) (cP : ClassId) (cL : ClassId), wW (dC, dI) (va_A [(ch, .inr (2, [.null, .null, .int 0]))] sz) [(ch, .inr (2, [.ref cp, .ref cn, .int 0])), (cp, .inl (cP, 992, .inr (.inl (fun _ => 0)))), (cn, .inl (cL, 992, .inl (fun _ => 0)))] [(cP, .long), (cL, .byte)] t) (va_A [(ch, .inr (2, [.null, .null, .int 0]))] sz)) 2 1984 (va_A [(ch, .inr (2, [.null, .null, .int 0]))] sz) := by
  refine Met.ofW (cc := cK_init) (maxL := 1) (ret := none) (by decide) rfl ?_
  intro p e s m args below meth c s₁ B hml hv
  obtain ⟨rfl, hv⟩ := hv
  have hx := B.exec
  have hb := B.bytes
  have hr := B.returns
  have hts : ∀ w ∈ aw, w.before _ s = true := fun w h => atoms_spec (ws := (.code yK_init cK_init 1 none :: aw)) B.pre w (List.mem_cons_of_mem _ h)
  have hown : s.vm.findClass RK = some m.cls := findClass_of_methodNamed B.named
  have hlocks := B.notSynchronized
  have hin : meth.name = "<init>" := (name_of_methodNamed B.named B.method).1
  obtain ⟨hsz, hP, hK, hD0, hG⟩ := hv
  subst hsz
  have hD := hD0.self (sz := s.heap.size)
  generalize hAe : va_A [(ch, .inr (2, [.null, .null, .int 0]))] s.heap.size = A at hD ⊢
  have hA : ∀ q : Nat, s.heap.size ≤ q → A q := fun q h => by rw [← hAe]; exact Or.inr h
  obtain ⟨H, hH⟩ : ∃ H, H = s.heap := ⟨_, rfl⟩
  have hS : va_S A s.heap H [] := by rw [hH]; exact va_S.rf
  rw [← hH] at hP ⊢
  have hP : va_P (dC, dI) kCl [(ch, .inr (2, [.null, .null, .int 0]))] H := hP
  have hl := lv_entry ([.ref ch]) (n := 1) (Nat.le_of_ble_eq_true rfl)
  rw [lg_entry_eq]
  generalize (lg_sl ([.ref ch]) ++ List.replicate (1 - (lg_sl ([.ref ch])).length) Slot.unset).toArray = ls at hl ⊢
  have hl : lv_has ls 1 [(0, .ref ch)] := hl
  refine lv_aload_n (pc := 0) hx hb dK_init_0 rfl (lv_at hl 0 rfl) ?_
  refine W.objInit hx hb hown (hts _ wd_645) (hts _ wd_590) (hts _ wd_591) rfl (by rw [hml]; exact hl.1) rfl dK_init_1 (Nat.le_of_ble_eq_true rfl) (Nat.le_of_ble_eq_true rfl) ?_
  refine W.eq (g2 := F0 m 4 ls []) rfl ?_
  refine lv_aload_n (pc := 4) hx hb dK_init_4 rfl (lv_at hl 0 rfl) ?_
  refine lv_sipush (pc := 5) (v := 992) hx hb dK_init_5 (by decide) ?_
  refine va_newa (atype := .long) (D := (dC, dI)) (cl := kCl) (pc := 8) (ty := .long) (n := 992) (N' := 992) (a0 := (992, .inr (.inl (fun _ => 0)))) hx hb (hts _ wd_641) rfl hK hP hD hS hA (fun cA => rfl) (by decide) (by decide) (by decide) (Nat.le_of_ble_eq_true rfl) (Nat.le_of_ble_eq_true rfl) dK_init_8 (fun q1 cA2 H hK hP hD hS => ?_)
  have hP : va_P (dC, dI) kCl [(ch, .inr (2, [.null, .null, .int 0])), (q1, .inl (cA2, 992, .inr (.inl (fun _ => 0))))] H := hP
  have hD : va_D A [(ch, .inr (2, [.null, .null, .int 0])), (q1, .inl (cA2, 992, .inr (.inl (fun _ => 0))))] := hD
  have hK : va_K (dC, dI) kCl [(cA2, .long)] s := hK
  refine W.widen (k := 1) (n := 992) (Nat.le_of_ble_eq_true rfl) (Nat.le_of_ble_eq_true rfl) ?_
  refine va_putF (D := (dC, dI)) (cl := kCl) (ci := 2) (v := .ref q1) (ty := (.array .long)) (C := RK) (T := TK) (N := 3) (pc := 10) hx hb hts inK tyK tyK_ok nmK hown hK hP hD hS 0 rfl rfl 0 (by decide) (hts _ wd_263) (fun _ h9 => h9) rfl hin rfl (by decide +kernel) rfl rfl (Nat.le_of_ble_eq_true rfl) dK_init_10 (fun H locs hP hD hS => ?_)
  have hP : va_P (dC, dI) kCl [(ch, .inr (2, [.ref q1, .null, .int 0])), (q1, .inl (cA2, 992, .inr (.inl (fun _ => 0))))] H := hP
  have hD : va_D A [(ch, .inr (2, [.ref q1, .null, .int 0])), (q1, .inl (cA2, 992, .inr (.inl (fun _ => 0))))] := hD
  refine lv_aload_n (pc := 13) hx hb dK_init_13 rfl (lv_at hl 0 rfl) ?_
  refine lv_sipush (pc := 14) (v := 992) hx hb dK_init_14 (by decide) ?_
  refine va_newa (atype := .byte) (D := (dC, dI)) (cl := kCl) (pc := 17) (ty := .byte) (n := 992) (N' := 992) (a0 := (992, .inl (fun _ => 0))) hx hb (hts _ wd_646) rfl hK hP hD hS hA (fun cA => rfl) (by decide) (by decide) (by decide) (Nat.le_of_ble_eq_true rfl) (Nat.le_of_ble_eq_true rfl) dK_init_17 (fun q3 cA4 H hK hP hD hS => ?_)
  have hP : va_P (dC, dI) kCl [(ch, .inr (2, [.ref q1, .null, .int 0])), (q1, .inl (cA2, 992, .inr (.inl (fun _ => 0)))), (q3, .inl (cA4, 992, .inl (fun _ => 0)))] H := hP
  have hD : va_D A [(ch, .inr (2, [.ref q1, .null, .int 0])), (q1, .inl (cA2, 992, .inr (.inl (fun _ => 0)))), (q3, .inl (cA4, 992, .inl (fun _ => 0)))] := hD
  have hK : va_K (dC, dI) kCl [(cA2, .long), (cA4, .byte)] s := hK
  refine W.widen (k := 2) (n := 1984) (Nat.le_of_ble_eq_true rfl) (Nat.le_of_ble_eq_true rfl) ?_
  refine va_putF (D := (dC, dI)) (cl := kCl) (ci := 2) (v := .ref q3) (ty := (.array .byte)) (C := RK) (T := TK) (N := 3) (pc := 19) hx hb hts inK tyK tyK_ok nmK hown hK hP hD hS 0 rfl rfl 1 (by decide) (hts _ wd_264) (fun _ h9 => h9) rfl hin rfl (by decide +kernel) rfl rfl (Nat.le_of_ble_eq_true rfl) dK_init_19 (fun H locs hP hD hS => ?_)
  have hP : va_P (dC, dI) kCl [(ch, .inr (2, [.ref q1, .ref q3, .int 0])), (q1, .inl (cA2, 992, .inr (.inl (fun _ => 0)))), (q3, .inl (cA4, 992, .inl (fun _ => 0)))] H := hP
  have hD : va_D A [(ch, .inr (2, [.ref q1, .ref q3, .int 0])), (q1, .inl (cA2, 992, .inr (.inl (fun _ => 0)))), (q3, .inl (cA4, 992, .inl (fun _ => 0)))] := hD
  have hP9 := hP.sub (ws' := [(ch, .inr (2, [.ref q1, .ref q3, .int 0])), (q1, .inl (cA2, 992, .inr (.inl (fun _ => 0)))), (q3, .inl (cA4, 992, .inl (fun _ => 0)))]) [0, 1, 2] rfl
  have hD9 := hD.sub (ws' := [(ch, .inr (2, [.ref q1, .ref q3, .int 0])), (q1, .inl (cA2, 992, .inr (.inl (fun _ => 0)))), (q3, .inl (cA4, 992, .inl (fun _ => 0)))]) [0, 1, 2] (by decide) rfl
  have hK9 := hK.sub (tys' := [(cA2, .long), (cA4, .byte)]) [0, 1] rfl
  exact W.vret (pc := 22) hx hb hr (fun t ht hW => ⟨⟨(), rfl, trivial, q1, q3, cA2, cA4, by rw [ht]; exact hP9, va_K.moved hW.alike hK9, hD9⟩, hS.F ht⟩) hS.2.2 dK_init_22
set_option maxHeartbeats 4000000 in
set_option maxRecDepth 100000 in
theorem gs_init (l : Launch) (dC : Nat → ClassId) (dI : Nat → Nat → Nat) (sz : Nat) (rv : Nat) (au : Int32) : Met l yS_init (.code yS_init cS_init 2 none :: aw) ({ frames := 2, cells := 4, slots := 25, locals := 32 }) (pW (dC, dI) sz [(rv, .inr (7, [.null, .int 0, .int 0]))] [] [.ref rv, .int au]) (va_Qv (fun (_ : Unit) => True) (fun _ t => ∃ (ct : Nat) (pc9 : Nat) (tg : Nat) (fx : Nat) (cP : ClassId) (cT : ClassId) (cX : ClassId), wW (dC, dI) (va_A [(rv, .inr (7, [.null, .int 0, .int 0]))] sz) [(rv, .inr (7, [.ref ct, .int au, .int 0])), (ct, .inr (5, [.ref pc9, .int 0, .ref tg, .ref fx, .int 0])), (pc9, .inl (cP, 8, .inr (.inl (fun _ => 0)))), (tg, .inl (cT, 6, .inl (fun _ => 0))), (fx, .inl (cX, 6, .inl (fun _ => 0)))] [(cP, .long), (cT, .int), (cX, .int)] t) (va_A [(rv, .inr (7, [.null, .int 0, .int 0]))] sz)) 4 25 (va_A [(rv, .inr (7, [.null, .int 0, .int 0]))] sz) := by
  refine Met.ofW (cc := cS_init) (maxL := 2) (ret := none) (by decide) rfl ?_
  intro p e s m args below meth c s₁ B hml hv
  obtain ⟨rfl, hv⟩ := hv
  have hx := B.exec
  have hb := B.bytes
  have hr := B.returns
  have hts : ∀ w ∈ aw, w.before _ s = true := fun w h => atoms_spec (ws := (.code yS_init cS_init 2 none :: aw)) B.pre w (List.mem_cons_of_mem _ h)
  have hown : s.vm.findClass RS = some m.cls := findClass_of_methodNamed B.named
  have hlocks := B.notSynchronized
  have hin : meth.name = "<init>" := (name_of_methodNamed B.named B.method).1
  obtain ⟨hsz, hP, hK, hD0, hG⟩ := hv
  subst hsz
  have hD := hD0.self (sz := s.heap.size)
  generalize hAe : va_A [(rv, .inr (7, [.null, .int 0, .int 0]))] s.heap.size = A at hD ⊢
  have hA : ∀ q : Nat, s.heap.size ≤ q → A q := fun q h => by rw [← hAe]; exact Or.inr h
  obtain ⟨H, hH⟩ : ∃ H, H = s.heap := ⟨_, rfl⟩
  have hS : va_S A s.heap H [] := by rw [hH]; exact va_S.rf
  rw [← hH] at hP ⊢
  have hP : va_P (dC, dI) kCl [(rv, .inr (7, [.null, .int 0, .int 0]))] H := hP
  have hl := lv_entry ([.ref rv, .int au]) (n := 2) (Nat.le_of_ble_eq_true rfl)
  rw [lg_entry_eq]
  generalize (lg_sl ([.ref rv, .int au]) ++ List.replicate (2 - (lg_sl ([.ref rv, .int au])).length) Slot.unset).toArray = ls at hl ⊢
  have hl : lv_has ls 2 [(0, .ref rv), (1, .int au)] := hl
  refine lv_aload_n (pc := 0) hx hb dS_init_0 rfl (lv_at hl 0 rfl) ?_
  refine W.objInit hx hb hown (hts _ wd_647) (hts _ wd_590) (hts _ wd_591) rfl (by rw [hml]; exact hl.1) rfl dS_init_1 (Nat.le_of_ble_eq_true rfl) (Nat.le_of_ble_eq_true rfl) ?_
  refine W.eq (g2 := F0 m 4 ls []) rfl ?_
  refine lv_aload_n (pc := 4) hx hb dS_init_4 rfl (lv_at hl 0 rfl) ?_
  refine va_new (D := (dC, dI)) (cl := kCl) (pc := 5) (ci := 5) (fs := [.null, .int 0, .null, .null, .int 0]) (C := RC) (T := TC) (N := 5) hx hb hts inC tyC tyC_ok hown (hts _ wd_648) (hts _ wd_649) (hts _ wd_228) hK hP hD hS hA rfl (fun j hj => by rcases (show j = 0 ∨ j = 1 ∨ j = 2 ∨ j = 3 ∨ j = 4 by omega) with rfl | rfl | rfl | rfl | rfl <;> rfl) (Nat.le_of_ble_eq_true rfl) (Nat.le_of_ble_eq_true rfl) dS_init_5 (fun q1 H hP hD hS => ?_)
  have hP : va_P (dC, dI) kCl [(rv, .inr (7, [.null, .int 0, .int 0])), (q1, .inr (5, [.null, .int 0, .null, .null, .int 0]))] H := hP
  have hD : va_D A [(rv, .inr (7, [.null, .int 0, .int 0])), (q1, .inr (5, [.null, .int 0, .null, .null, .int 0]))] := hD
  have hK : va_K (dC, dI) kCl [] s := hK
  refine W.widen (k := 1) (n := 5) (Nat.le_of_ble_eq_true rfl) (Nat.le_of_ble_eq_true rfl) ?_
  refine lv_dup (pc := 8) hx hb dS_init_8 rfl ?_
  have hPc := hP.sub (ws' := [(q1, .inr (5, [.null, .int 0, .null, .null, .int 0]))]) [1] rfl
  have hDc := hD.sub (ws' := [(q1, .inr (5, [.null, .int 0, .null, .null, .int 0]))]) [1] (by decide) rfl
  have hKc := hK.sub (tys' := []) [] rfl
  have hFc := va_free (wc := [(q1, .inr (5, [.null, .int 0, .null, .null, .int 0]))]) hD hS hA [1] rfl
  refine va_callv (pc := 9) (va_runIN (As := []) (rest := [.ref q1, .ref rv]) ⟨hx, hb, hml, hown, hts⟩ (c_init l dC dI H.size q1) (⟨va_cnB 0 hts (gI wd_650) rfl rfl rfl (eG_S11 hG) (hts _ wd_228) (by decide +kernel) ⟨Nat.le_of_ble_eq_true rfl, Nat.le_of_ble_eq_true rfl⟩, rfl, hts _ wd_651⟩) ⟨pW_blind, pW_pre hPc hKc hDc hG⟩ rfl rfl hl.1 rfl (lv_room (Nat.le_of_ble_eq_true rfl)) dS_init_9 ⟨Nat.le_of_ble_eq_true rfl, Nat.le_of_ble_eq_true rfl⟩) hS (fun q _ h => hFc q h) hFc (fun u t H1 locs ht hvm hr3 hB hz1 hk1 hS => ?_)
  obtain ⟨pc94, tg5, fx6, cP7, cT8, cX9, hP1, hK1, hD1⟩ := hB
  rw [ht] at hP1
  have hK1 := va_K.moved hvm.symm hK1
  obtain ⟨hP, hD⟩ := va_join (wr := [(rv, .inr (7, [.null, .int 0, .int 0]))]) (w1 := [(q1, .inr (5, [.ref pc94, .int 0, .ref tg5, .ref fx6, .int 0])), (pc94, .inl (cP7, 8, .inr (.inl (fun _ => 0)))), (tg5, .inl (cT8, 6, .inl (fun _ => 0))), (fx6, .inl (cX9, 6, .inl (fun _ => 0)))]) hP hD [1] [0] rfl rfl (by decide) (by decide) hk1 hFc hP1 hD1
  generalize H1 = H at hP hS ⊢
  have hK := hK.app hK1
  have hK : va_K (dC, dI) kCl [(cP7, .long), (cT8, .int), (cX9, .int)] s := hK
  have hP : va_P (dC, dI) kCl [(rv, .inr (7, [.null, .int 0, .int 0])), (q1, .inr (5, [.ref pc94, .int 0, .ref tg5, .ref fx6, .int 0])), (pc94, .inl (cP7, 8, .inr (.inl (fun _ => 0)))), (tg5, .inl (cT8, 6, .inl (fun _ => 0))), (fx6, .inl (cX9, 6, .inl (fun _ => 0)))] H := hP
  have hD : va_D A [(rv, .inr (7, [.null, .int 0, .int 0])), (q1, .inr (5, [.ref pc94, .int 0, .ref tg5, .ref fx6, .int 0])), (pc94, .inl (cP7, 8, .inr (.inl (fun _ => 0)))), (tg5, .inl (cT8, 6, .inl (fun _ => 0))), (fx6, .inl (cX9, 6, .inl (fun _ => 0)))] := hD
  refine W.widen (k := 4) (n := 25) (Nat.le_of_ble_eq_true rfl) (Nat.le_of_ble_eq_true rfl) ?_
  refine va_putF (D := (dC, dI)) (cl := kCl) (ci := 7) (v := .ref q1) (ty := (.object "DrawingVault$Content")) (C := RS) (T := TS) (N := 3) (pc := 12) hx hb hts inS tyS tyS_ok nmS hown hK hP hD hS 0 rfl rfl 0 (by decide) (hts _ wd_652) (fun _ h9 => h9) rfl hin rfl (by decide +kernel) rfl rfl (Nat.le_of_ble_eq_true rfl) dS_init_12 (fun H locs hP hD hS => ?_)
  have hP : va_P (dC, dI) kCl [(rv, .inr (7, [.ref q1, .int 0, .int 0])), (q1, .inr (5, [.ref pc94, .int 0, .ref tg5, .ref fx6, .int 0])), (pc94, .inl (cP7, 8, .inr (.inl (fun _ => 0)))), (tg5, .inl (cT8, 6, .inl (fun _ => 0))), (fx6, .inl (cX9, 6, .inl (fun _ => 0)))] H := hP
  have hD : va_D A [(rv, .inr (7, [.ref q1, .int 0, .int 0])), (q1, .inr (5, [.ref pc94, .int 0, .ref tg5, .ref fx6, .int 0])), (pc94, .inl (cP7, 8, .inr (.inl (fun _ => 0)))), (tg5, .inl (cT8, 6, .inl (fun _ => 0))), (fx6, .inl (cX9, 6, .inl (fun _ => 0)))] := hD
  refine lv_aload_n (pc := 15) hx hb dS_init_15 rfl (lv_at hl 0 rfl) ?_
  refine lv_iconst (pc := 16) (v := 0) hx hb dS_init_16 (by decide) ?_
  refine va_put (D := (dC, dI)) (cl := kCl) (ci := 7) (v := .int 0) (ty := .int) (C := RS) (T := TS) (N := 3) (pc := 17) hx hb hts inS tyS tyS_ok nmS hown hK hP hD hS 0 rfl rfl 2 (by decide) (hts _ wd_653) (fun _ h9 => h9) rfl (by decide +kernel) rfl rfl (Nat.le_of_ble_eq_true rfl) dS_init_17 (fun H locs hP hD hS => ?_)
  have hP : va_P (dC, dI) kCl [(rv, .inr (7, [.ref q1, .int 0, .int 0])), (q1, .inr (5, [.ref pc94, .int 0, .ref tg5, .ref fx6, .int 0])), (pc94, .inl (cP7, 8, .inr (.inl (fun _ => 0)))), (tg5, .inl (cT8, 6, .inl (fun _ => 0))), (fx6, .inl (cX9, 6, .inl (fun _ => 0)))] H := hP
  have hD : va_D A [(rv, .inr (7, [.ref q1, .int 0, .int 0])), (q1, .inr (5, [.ref pc94, .int 0, .ref tg5, .ref fx6, .int 0])), (pc94, .inl (cP7, 8, .inr (.inl (fun _ => 0)))), (tg5, .inl (cT8, 6, .inl (fun _ => 0))), (fx6, .inl (cX9, 6, .inl (fun _ => 0)))] := hD
  refine lv_aload_n (pc := 20) hx hb dS_init_20 rfl (lv_at hl 0 rfl) ?_
  refine lv_iload_n (pc := 21) hx hb dS_init_21 rfl (lv_at hl 1 rfl) ?_
  refine va_putF (D := (dC, dI)) (cl := kCl) (ci := 7) (v := .int au) (ty := .int) (C := RS) (T := TS) (N := 3) (pc := 22) hx hb hts inS tyS tyS_ok nmS hown hK hP hD hS 0 rfl rfl 1 (by decide) (hts _ wd_654) (fun _ h9 => h9) rfl hin rfl (by decide +kernel) rfl rfl (Nat.le_of_ble_eq_true rfl) dS_init_22 (fun H locs hP hD hS => ?_)
  have hP : va_P (dC, dI) kCl [(rv, .inr (7, [.ref q1, .int au, .int 0])), (q1, .inr (5, [.ref pc94, .int 0, .ref tg5, .ref fx6, .int 0])), (pc94, .inl (cP7, 8, .inr (.inl (fun _ => 0)))), (tg5, .inl (cT8, 6, .inl (fun _ => 0))), (fx6, .inl (cX9, 6, .inl (fun _ => 0)))] H := hP
  have hD : va_D A [(rv, .inr (7, [.ref q1, .int au, .int 0])), (q1, .inr (5, [.ref pc94, .int 0, .ref tg5, .ref fx6, .int 0])), (pc94, .inl (cP7, 8, .inr (.inl (fun _ => 0)))), (tg5, .inl (cT8, 6, .inl (fun _ => 0))), (fx6, .inl (cX9, 6, .inl (fun _ => 0)))] := hD
  have hP9 := hP.sub (ws' := [(rv, .inr (7, [.ref q1, .int au, .int 0])), (q1, .inr (5, [.ref pc94, .int 0, .ref tg5, .ref fx6, .int 0])), (pc94, .inl (cP7, 8, .inr (.inl (fun _ => 0)))), (tg5, .inl (cT8, 6, .inl (fun _ => 0))), (fx6, .inl (cX9, 6, .inl (fun _ => 0)))]) [0, 1, 2, 3, 4] rfl
  have hD9 := hD.sub (ws' := [(rv, .inr (7, [.ref q1, .int au, .int 0])), (q1, .inr (5, [.ref pc94, .int 0, .ref tg5, .ref fx6, .int 0])), (pc94, .inl (cP7, 8, .inr (.inl (fun _ => 0)))), (tg5, .inl (cT8, 6, .inl (fun _ => 0))), (fx6, .inl (cX9, 6, .inl (fun _ => 0)))]) [0, 1, 2, 3, 4] (by decide) rfl
  have hK9 := hK.sub (tys' := [(cP7, .long), (cT8, .int), (cX9, .int)]) [0, 1, 2] rfl
  exact W.vret (pc := 25) hx hb hr (fun t ht hW => ⟨⟨(), rfl, trivial, q1, pc94, tg5, fx6, cP7, cT8, cX9, by rw [ht]; exact hP9, va_K.moved hW.alike hK9, hD9⟩, hS.F ht⟩) hS.2.2 dS_init_25
set_option maxHeartbeats 4000000 in
set_option maxRecDepth 100000 in
theorem gd_init (l : Launch) (dC : Nat → ClassId) (dI : Nat → Nat → Nat) (sz : Nat) (dw : Nat) : Met l yD_init (.code yD_init cD_init 1 none :: aw) ({ frames := 2, cells := 9, slots := 62, locals := 32 }) (pW (dC, dI) sz [(dw, .inr (6, [.null, .int 0, .int 0, .null, .null]))] [] [.ref dw]) (va_Qv (fun (_ : Unit) => True) (fun _ t => ∃ (ra : Nat) (cR : ClassId) (ct1 : Nat) (pc1 : Nat) (tg1 : Nat) (fx1 : Nat) (cP1 : ClassId) (cT1 : ClassId) (cX1 : ClassId) (ct2 : Nat) (pc2 : Nat) (tg2 : Nat) (fx2 : Nat) (cP2 : ClassId) (cT2 : ClassId) (cX2 : ClassId), wW (dC, dI) (va_A [(dw, .inr (6, [.null, .int 0, .int 0, .null, .null]))] sz) [(dw, .inr (6, [.ref ra, .int 0, .int (-1), .ref ct1, .ref ct2])), (ra, .inl (cR, 12, .inr (.inr (.inr (.inr (fun _ => none)))))), (ct1, .inr (5, [.ref pc1, .int 0, .ref tg1, .ref fx1, .int 0])), (pc1, .inl (cP1, 8, .inr (.inl (fun _ => 0)))), (tg1, .inl (cT1, 6, .inl (fun _ => 0))), (fx1, .inl (cX1, 6, .inl (fun _ => 0))), (ct2, .inr (5, [.ref pc2, .int 0, .ref tg2, .ref fx2, .int 0])), (pc2, .inl (cP2, 8, .inr (.inl (fun _ => 0)))), (tg2, .inl (cT2, 6, .inl (fun _ => 0))), (fx2, .inl (cX2, 6, .inl (fun _ => 0)))] [(cR, .object "DrawingVault$Revision"), (cP1, .long), (cT1, .int), (cX1, .int), (cP2, .long), (cT2, .int), (cX2, .int)] t) (va_A [(dw, .inr (6, [.null, .int 0, .int 0, .null, .null]))] sz)) 9 62 (va_A [(dw, .inr (6, [.null, .int 0, .int 0, .null, .null]))] sz) := by
  refine Met.ofW (cc := cD_init) (maxL := 1) (ret := none) (by decide) rfl ?_
  intro p e s m args below meth c s₁ B hml hv
  obtain ⟨rfl, hv⟩ := hv
  have hx := B.exec
  have hb := B.bytes
  have hr := B.returns
  have hts : ∀ w ∈ aw, w.before _ s = true := fun w h => atoms_spec (ws := (.code yD_init cD_init 1 none :: aw)) B.pre w (List.mem_cons_of_mem _ h)
  have hown : s.vm.findClass RD = some m.cls := findClass_of_methodNamed B.named
  have hlocks := B.notSynchronized
  have hin : meth.name = "<init>" := (name_of_methodNamed B.named B.method).1
  obtain ⟨hsz, hP, hK, hD0, hG⟩ := hv
  subst hsz
  have hD := hD0.self (sz := s.heap.size)
  generalize hAe : va_A [(dw, .inr (6, [.null, .int 0, .int 0, .null, .null]))] s.heap.size = A at hD ⊢
  have hA : ∀ q : Nat, s.heap.size ≤ q → A q := fun q h => by rw [← hAe]; exact Or.inr h
  obtain ⟨H, hH⟩ : ∃ H, H = s.heap := ⟨_, rfl⟩
  have hS : va_S A s.heap H [] := by rw [hH]; exact va_S.rf
  rw [← hH] at hP ⊢
  have hP : va_P (dC, dI) kCl [(dw, .inr (6, [.null, .int 0, .int 0, .null, .null]))] H := hP
  have hl := lv_entry ([.ref dw]) (n := 1) (Nat.le_of_ble_eq_true rfl)
  rw [lg_entry_eq]
  generalize (lg_sl ([.ref dw]) ++ List.replicate (1 - (lg_sl ([.ref dw])).length) Slot.unset).toArray = ls at hl ⊢
  have hl : lv_has ls 1 [(0, .ref dw)] := hl
  refine lv_aload_n (pc := 0) hx hb dD_init_0 rfl (lv_at hl 0 rfl) ?_
  refine W.objInit hx hb hown (hts _ wd_655) (hts _ wd_590) (hts _ wd_591) rfl (by rw [hml]; exact hl.1) rfl dD_init_1 (Nat.le_of_ble_eq_true rfl) (Nat.le_of_ble_eq_true rfl) ?_
  refine W.eq (g2 := F0 m 4 ls []) rfl ?_
  refine lv_aload_n (pc := 4) hx hb dD_init_4 rfl (lv_at hl 0 rfl) ?_
  refine lv_bipush (pc := 5) (v := 12) hx hb dD_init_5 (by decide) ?_
  refine va_newq (D := (dC, dI)) (cl := kCl) (pc := 7) (n := 12) (N' := 12) (C := "DrawingVault$Revision") hx hb hown (hts _ wd_656) (eG_oS hG) hK hP hD hS hA (by decide) (by decide) (by decide) (Nat.le_of_ble_eq_true rfl) (Nat.le_of_ble_eq_true rfl) dD_init_7 (fun q1 cA2 H hK hP hD hS => ?_)
  have hP : va_P (dC, dI) kCl [(dw, .inr (6, [.null, .int 0, .int 0, .null, .null])), (q1, .inl (cA2, 12, .inr (.inr (.inr (.inr (fun _ => none))))))] H := hP
  have hD : va_D A [(dw, .inr (6, [.null, .int 0, .int 0, .null, .null])), (q1, .inl (cA2, 12, .inr (.inr (.inr (.inr (fun _ => none))))))] := hD
  have hK : va_K (dC, dI) kCl [(cA2, .object "DrawingVault$Revision")] s := hK
  refine W.widen (k := 1) (n := 12) (Nat.le_of_ble_eq_true rfl) (Nat.le_of_ble_eq_true rfl) ?_
  refine va_putF (D := (dC, dI)) (cl := kCl) (ci := 6) (v := .ref q1) (ty := (.array (.object "DrawingVault$Revision"))) (C := RD) (T := TD) (N := 5) (pc := 10) hx hb hts inD tyD tyD_ok nmD hown hK hP hD hS 0 rfl rfl 0 (by decide) (hts _ wd_293) (fun _ h9 => h9) rfl hin rfl (by decide +kernel) rfl rfl (Nat.le_of_ble_eq_true rfl) dD_init_10 (fun H locs hP hD hS => ?_)
  have hP : va_P (dC, dI) kCl [(dw, .inr (6, [.ref q1, .int 0, .int 0, .null, .null])), (q1, .inl (cA2, 12, .inr (.inr (.inr (.inr (fun _ => none))))))] H := hP
  have hD : va_D A [(dw, .inr (6, [.ref q1, .int 0, .int 0, .null, .null])), (q1, .inl (cA2, 12, .inr (.inr (.inr (.inr (fun _ => none))))))] := hD
  refine lv_aload_n (pc := 13) hx hb dD_init_13 rfl (lv_at hl 0 rfl) ?_
  refine lv_iconst (pc := 14) (v := (-1)) hx hb dD_init_14 (by decide) ?_
  refine va_put (D := (dC, dI)) (cl := kCl) (ci := 6) (v := .int (-1)) (ty := .int) (C := RD) (T := TD) (N := 5) (pc := 15) hx hb hts inD tyD tyD_ok nmD hown hK hP hD hS 0 rfl rfl 2 (by decide) (hts _ wd_304) (fun _ h9 => h9) rfl (by decide +kernel) rfl rfl (Nat.le_of_ble_eq_true rfl) dD_init_15 (fun H locs hP hD hS => ?_)
  have hP : va_P (dC, dI) kCl [(dw, .inr (6, [.ref q1, .int 0, .int (-1), .null, .null])), (q1, .inl (cA2, 12, .inr (.inr (.inr (.inr (fun _ => none))))))] H := hP
  have hD : va_D A [(dw, .inr (6, [.ref q1, .int 0, .int (-1), .null, .null])), (q1, .inl (cA2, 12, .inr (.inr (.inr (.inr (fun _ => none))))))] := hD
  refine lv_aload_n (pc := 18) hx hb dD_init_18 rfl (lv_at hl 0 rfl) ?_
  refine va_new (D := (dC, dI)) (cl := kCl) (pc := 19) (ci := 5) (fs := [.null, .int 0, .null, .null, .int 0]) (C := RC) (T := TC) (N := 5) hx hb hts inC tyC tyC_ok hown (hts _ wd_657) (hts _ wd_649) (hts _ wd_228) hK hP hD hS hA rfl (fun j hj => by rcases (show j = 0 ∨ j = 1 ∨ j = 2 ∨ j = 3 ∨ j = 4 by omega) with rfl | rfl | rfl | rfl | rfl <;> rfl) (Nat.le_of_ble_eq_true rfl) (Nat.le_of_ble_eq_true rfl) dD_init_19 (fun q3 H hP hD hS => ?_)
  have hP : va_P (dC, dI) kCl [(dw, .inr (6, [.ref q1, .int 0, .int (-1), .null, .null])), (q1, .inl (cA2, 12, .inr (.inr (.inr (.inr (fun _ => none)))))), (q3, .inr (5, [.null, .int 0, .null, .null, .int 0]))] H := hP
  have hD : va_D A [(dw, .inr (6, [.ref q1, .int 0, .int (-1), .null, .null])), (q1, .inl (cA2, 12, .inr (.inr (.inr (.inr (fun _ => none)))))), (q3, .inr (5, [.null, .int 0, .null, .null, .int 0]))] := hD
  have hK : va_K (dC, dI) kCl [(cA2, .object "DrawingVault$Revision")] s := hK
  refine W.widen (k := 2) (n := 17) (Nat.le_of_ble_eq_true rfl) (Nat.le_of_ble_eq_true rfl) ?_
  refine lv_dup (pc := 22) hx hb dD_init_22 rfl ?_
  have hPc := hP.sub (ws' := [(q3, .inr (5, [.null, .int 0, .null, .null, .int 0]))]) [2] rfl
  have hDc := hD.sub (ws' := [(q3, .inr (5, [.null, .int 0, .null, .null, .int 0]))]) [2] (by decide) rfl
  have hKc := hK.sub (tys' := []) [] rfl
  have hFc := va_free (wc := [(q3, .inr (5, [.null, .int 0, .null, .null, .int 0]))]) hD hS hA [2] rfl
  refine va_callv (pc := 23) (va_runIN (As := []) (rest := [.ref q3, .ref dw]) ⟨hx, hb, hml, hown, hts⟩ (c_init l dC dI H.size q3) (⟨va_cnB 0 hts (gI wd_650) rfl rfl rfl (eG_D23 hG) (hts _ wd_228) (by decide +kernel) ⟨Nat.le_of_ble_eq_true rfl, Nat.le_of_ble_eq_true rfl⟩, rfl, hts _ wd_651⟩) ⟨pW_blind, pW_pre hPc hKc hDc hG⟩ rfl rfl hl.1 rfl (lv_room (Nat.le_of_ble_eq_true rfl)) dD_init_23 ⟨Nat.le_of_ble_eq_true rfl, Nat.le_of_ble_eq_true rfl⟩) hS (fun q _ h => hFc q h) hFc (fun u t H1 locs ht hvm hr5 hB hz1 hk1 hS => ?_)
  obtain ⟨pc96, tg7, fx8, cP9, cT10, cX11, hP1, hK1, hD1⟩ := hB
  rw [ht] at hP1
  have hK1 := va_K.moved hvm.symm hK1
  obtain ⟨hP, hD⟩ := va_join (wr := [(dw, .inr (6, [.ref q1, .int 0, .int (-1), .null, .null])), (q1, .inl (cA2, 12, .inr (.inr (.inr (.inr (fun _ => none))))))]) (w1 := [(q3, .inr (5, [.ref pc96, .int 0, .ref tg7, .ref fx8, .int 0])), (pc96, .inl (cP9, 8, .inr (.inl (fun _ => 0)))), (tg7, .inl (cT10, 6, .inl (fun _ => 0))), (fx8, .inl (cX11, 6, .inl (fun _ => 0)))]) hP hD [2] [0, 1] rfl rfl (by decide) (by decide) hk1 hFc hP1 hD1
  generalize H1 = H at hP hS ⊢
  have hK := hK.app hK1
  have hK : va_K (dC, dI) kCl [(cA2, .object "DrawingVault$Revision"), (cP9, .long), (cT10, .int), (cX11, .int)] s := hK
  have hP : va_P (dC, dI) kCl [(dw, .inr (6, [.ref q1, .int 0, .int (-1), .null, .null])), (q1, .inl (cA2, 12, .inr (.inr (.inr (.inr (fun _ => none)))))), (q3, .inr (5, [.ref pc96, .int 0, .ref tg7, .ref fx8, .int 0])), (pc96, .inl (cP9, 8, .inr (.inl (fun _ => 0)))), (tg7, .inl (cT10, 6, .inl (fun _ => 0))), (fx8, .inl (cX11, 6, .inl (fun _ => 0)))] H := hP
  have hD : va_D A [(dw, .inr (6, [.ref q1, .int 0, .int (-1), .null, .null])), (q1, .inl (cA2, 12, .inr (.inr (.inr (.inr (fun _ => none)))))), (q3, .inr (5, [.ref pc96, .int 0, .ref tg7, .ref fx8, .int 0])), (pc96, .inl (cP9, 8, .inr (.inl (fun _ => 0)))), (tg7, .inl (cT10, 6, .inl (fun _ => 0))), (fx8, .inl (cX11, 6, .inl (fun _ => 0)))] := hD
  refine W.widen (k := 5) (n := 37) (Nat.le_of_ble_eq_true rfl) (Nat.le_of_ble_eq_true rfl) ?_
  refine va_putF (D := (dC, dI)) (cl := kCl) (ci := 6) (v := .ref q3) (ty := (.object "DrawingVault$Content")) (C := RD) (T := TD) (N := 5) (pc := 26) hx hb hts inD tyD tyD_ok nmD hown hK hP hD hS 0 rfl rfl 3 (by decide) (hts _ wd_305) (fun _ h9 => h9) rfl hin rfl (by decide +kernel) rfl rfl (Nat.le_of_ble_eq_true rfl) dD_init_26 (fun H locs hP hD hS => ?_)
  have hP : va_P (dC, dI) kCl [(dw, .inr (6, [.ref q1, .int 0, .int (-1), .ref q3, .null])), (q1, .inl (cA2, 12, .inr (.inr (.inr (.inr (fun _ => none)))))), (q3, .inr (5, [.ref pc96, .int 0, .ref tg7, .ref fx8, .int 0])), (pc96, .inl (cP9, 8, .inr (.inl (fun _ => 0)))), (tg7, .inl (cT10, 6, .inl (fun _ => 0))), (fx8, .inl (cX11, 6, .inl (fun _ => 0)))] H := hP
  have hD : va_D A [(dw, .inr (6, [.ref q1, .int 0, .int (-1), .ref q3, .null])), (q1, .inl (cA2, 12, .inr (.inr (.inr (.inr (fun _ => none)))))), (q3, .inr (5, [.ref pc96, .int 0, .ref tg7, .ref fx8, .int 0])), (pc96, .inl (cP9, 8, .inr (.inl (fun _ => 0)))), (tg7, .inl (cT10, 6, .inl (fun _ => 0))), (fx8, .inl (cX11, 6, .inl (fun _ => 0)))] := hD
  refine lv_aload_n (pc := 29) hx hb dD_init_29 rfl (lv_at hl 0 rfl) ?_
  refine va_new (D := (dC, dI)) (cl := kCl) (pc := 30) (ci := 5) (fs := [.null, .int 0, .null, .null, .int 0]) (C := RC) (T := TC) (N := 5) hx hb hts inC tyC tyC_ok hown (hts _ wd_657) (hts _ wd_649) (hts _ wd_228) hK hP hD hS hA rfl (fun j hj => by rcases (show j = 0 ∨ j = 1 ∨ j = 2 ∨ j = 3 ∨ j = 4 by omega) with rfl | rfl | rfl | rfl | rfl <;> rfl) (Nat.le_of_ble_eq_true rfl) (Nat.le_of_ble_eq_true rfl) dD_init_30 (fun q13 H hP hD hS => ?_)
  have hP : va_P (dC, dI) kCl [(dw, .inr (6, [.ref q1, .int 0, .int (-1), .ref q3, .null])), (q1, .inl (cA2, 12, .inr (.inr (.inr (.inr (fun _ => none)))))), (q3, .inr (5, [.ref pc96, .int 0, .ref tg7, .ref fx8, .int 0])), (pc96, .inl (cP9, 8, .inr (.inl (fun _ => 0)))), (tg7, .inl (cT10, 6, .inl (fun _ => 0))), (fx8, .inl (cX11, 6, .inl (fun _ => 0))), (q13, .inr (5, [.null, .int 0, .null, .null, .int 0]))] H := hP
  have hD : va_D A [(dw, .inr (6, [.ref q1, .int 0, .int (-1), .ref q3, .null])), (q1, .inl (cA2, 12, .inr (.inr (.inr (.inr (fun _ => none)))))), (q3, .inr (5, [.ref pc96, .int 0, .ref tg7, .ref fx8, .int 0])), (pc96, .inl (cP9, 8, .inr (.inl (fun _ => 0)))), (tg7, .inl (cT10, 6, .inl (fun _ => 0))), (fx8, .inl (cX11, 6, .inl (fun _ => 0))), (q13, .inr (5, [.null, .int 0, .null, .null, .int 0]))] := hD
  have hK : va_K (dC, dI) kCl [(cA2, .object "DrawingVault$Revision"), (cP9, .long), (cT10, .int), (cX11, .int)] s := hK
  refine W.widen (k := 6) (n := 42) (Nat.le_of_ble_eq_true rfl) (Nat.le_of_ble_eq_true rfl) ?_
  refine lv_dup (pc := 33) hx hb dD_init_33 rfl ?_
  have hPc := hP.sub (ws' := [(q13, .inr (5, [.null, .int 0, .null, .null, .int 0]))]) [6] rfl
  have hDc := hD.sub (ws' := [(q13, .inr (5, [.null, .int 0, .null, .null, .int 0]))]) [6] (by decide) rfl
  have hKc := hK.sub (tys' := []) [] rfl
  have hFc := va_free (wc := [(q13, .inr (5, [.null, .int 0, .null, .null, .int 0]))]) hD hS hA [6] rfl
  refine va_callv (pc := 34) (va_runIN (As := []) (rest := [.ref q13, .ref dw]) ⟨hx, hb, hml, hown, hts⟩ (c_init l dC dI H.size q13) (⟨va_cnB 0 hts (gI wd_650) rfl rfl rfl (eG_D23 hG) (hts _ wd_228) (by decide +kernel) ⟨Nat.le_of_ble_eq_true rfl, Nat.le_of_ble_eq_true rfl⟩, rfl, hts _ wd_651⟩) ⟨pW_blind, pW_pre hPc hKc hDc hG⟩ rfl rfl hl.1 rfl (lv_room (Nat.le_of_ble_eq_true rfl)) dD_init_34 ⟨Nat.le_of_ble_eq_true rfl, Nat.le_of_ble_eq_true rfl⟩) hS (fun q _ h => hFc q h) hFc (fun u t H1 locs ht hvm hr15 hB hz1 hk1 hS => ?_)
  obtain ⟨pc916, tg17, fx18, cP19, cT20, cX21, hP1, hK1, hD1⟩ := hB
  rw [ht] at hP1
  have hK1 := va_K.moved hvm.symm hK1
  obtain ⟨hP, hD⟩ := va_join (wr := [(dw, .inr (6, [.ref q1, .int 0, .int (-1), .ref q3, .null])), (q1, .inl (cA2, 12, .inr (.inr (.inr (.inr (fun _ => none)))))), (q3, .inr (5, [.ref pc96, .int 0, .ref tg7, .ref fx8, .int 0])), (pc96, .inl (cP9, 8, .inr (.inl (fun _ => 0)))), (tg7, .inl (cT10, 6, .inl (fun _ => 0))), (fx8, .inl (cX11, 6, .inl (fun _ => 0)))]) (w1 := [(q13, .inr (5, [.ref pc916, .int 0, .ref tg17, .ref fx18, .int 0])), (pc916, .inl (cP19, 8, .inr (.inl (fun _ => 0)))), (tg17, .inl (cT20, 6, .inl (fun _ => 0))), (fx18, .inl (cX21, 6, .inl (fun _ => 0)))]) hP hD [6] [0, 1, 2, 3, 4, 5] rfl rfl (by decide) (by decide) hk1 hFc hP1 hD1
  generalize H1 = H at hP hS ⊢
  have hK := hK.app hK1
  have hK : va_K (dC, dI) kCl [(cA2, .object "DrawingVault$Revision"), (cP9, .long), (cT10, .int), (cX11, .int), (cP19, .long), (cT20, .int), (cX21, .int)] s := hK
  have hP : va_P (dC, dI) kCl [(dw, .inr (6, [.ref q1, .int 0, .int (-1), .ref q3, .null])), (q1, .inl (cA2, 12, .inr (.inr (.inr (.inr (fun _ => none)))))), (q3, .inr (5, [.ref pc96, .int 0, .ref tg7, .ref fx8, .int 0])), (pc96, .inl (cP9, 8, .inr (.inl (fun _ => 0)))), (tg7, .inl (cT10, 6, .inl (fun _ => 0))), (fx8, .inl (cX11, 6, .inl (fun _ => 0))), (q13, .inr (5, [.ref pc916, .int 0, .ref tg17, .ref fx18, .int 0])), (pc916, .inl (cP19, 8, .inr (.inl (fun _ => 0)))), (tg17, .inl (cT20, 6, .inl (fun _ => 0))), (fx18, .inl (cX21, 6, .inl (fun _ => 0)))] H := hP
  have hD : va_D A [(dw, .inr (6, [.ref q1, .int 0, .int (-1), .ref q3, .null])), (q1, .inl (cA2, 12, .inr (.inr (.inr (.inr (fun _ => none)))))), (q3, .inr (5, [.ref pc96, .int 0, .ref tg7, .ref fx8, .int 0])), (pc96, .inl (cP9, 8, .inr (.inl (fun _ => 0)))), (tg7, .inl (cT10, 6, .inl (fun _ => 0))), (fx8, .inl (cX11, 6, .inl (fun _ => 0))), (q13, .inr (5, [.ref pc916, .int 0, .ref tg17, .ref fx18, .int 0])), (pc916, .inl (cP19, 8, .inr (.inl (fun _ => 0)))), (tg17, .inl (cT20, 6, .inl (fun _ => 0))), (fx18, .inl (cX21, 6, .inl (fun _ => 0)))] := hD
  refine W.widen (k := 9) (n := 62) (Nat.le_of_ble_eq_true rfl) (Nat.le_of_ble_eq_true rfl) ?_
  refine va_putF (D := (dC, dI)) (cl := kCl) (ci := 6) (v := .ref q13) (ty := (.object "DrawingVault$Content")) (C := RD) (T := TD) (N := 5) (pc := 37) hx hb hts inD tyD tyD_ok nmD hown hK hP hD hS 0 rfl rfl 4 (by decide) (hts _ wd_658) (fun _ h9 => h9) rfl hin rfl (by decide +kernel) rfl rfl (Nat.le_of_ble_eq_true rfl) dD_init_37 (fun H locs hP hD hS => ?_)
  have hP : va_P (dC, dI) kCl [(dw, .inr (6, [.ref q1, .int 0, .int (-1), .ref q3, .ref q13])), (q1, .inl (cA2, 12, .inr (.inr (.inr (.inr (fun _ => none)))))), (q3, .inr (5, [.ref pc96, .int 0, .ref tg7, .ref fx8, .int 0])), (pc96, .inl (cP9, 8, .inr (.inl (fun _ => 0)))), (tg7, .inl (cT10, 6, .inl (fun _ => 0))), (fx8, .inl (cX11, 6, .inl (fun _ => 0))), (q13, .inr (5, [.ref pc916, .int 0, .ref tg17, .ref fx18, .int 0])), (pc916, .inl (cP19, 8, .inr (.inl (fun _ => 0)))), (tg17, .inl (cT20, 6, .inl (fun _ => 0))), (fx18, .inl (cX21, 6, .inl (fun _ => 0)))] H := hP
  have hD : va_D A [(dw, .inr (6, [.ref q1, .int 0, .int (-1), .ref q3, .ref q13])), (q1, .inl (cA2, 12, .inr (.inr (.inr (.inr (fun _ => none)))))), (q3, .inr (5, [.ref pc96, .int 0, .ref tg7, .ref fx8, .int 0])), (pc96, .inl (cP9, 8, .inr (.inl (fun _ => 0)))), (tg7, .inl (cT10, 6, .inl (fun _ => 0))), (fx8, .inl (cX11, 6, .inl (fun _ => 0))), (q13, .inr (5, [.ref pc916, .int 0, .ref tg17, .ref fx18, .int 0])), (pc916, .inl (cP19, 8, .inr (.inl (fun _ => 0)))), (tg17, .inl (cT20, 6, .inl (fun _ => 0))), (fx18, .inl (cX21, 6, .inl (fun _ => 0)))] := hD
  have hP9 := hP.sub (ws' := [(dw, .inr (6, [.ref q1, .int 0, .int (-1), .ref q3, .ref q13])), (q1, .inl (cA2, 12, .inr (.inr (.inr (.inr (fun _ => none)))))), (q3, .inr (5, [.ref pc96, .int 0, .ref tg7, .ref fx8, .int 0])), (pc96, .inl (cP9, 8, .inr (.inl (fun _ => 0)))), (tg7, .inl (cT10, 6, .inl (fun _ => 0))), (fx8, .inl (cX11, 6, .inl (fun _ => 0))), (q13, .inr (5, [.ref pc916, .int 0, .ref tg17, .ref fx18, .int 0])), (pc916, .inl (cP19, 8, .inr (.inl (fun _ => 0)))), (tg17, .inl (cT20, 6, .inl (fun _ => 0))), (fx18, .inl (cX21, 6, .inl (fun _ => 0)))]) [0, 1, 2, 3, 4, 5, 6, 7, 8, 9] rfl
  have hD9 := hD.sub (ws' := [(dw, .inr (6, [.ref q1, .int 0, .int (-1), .ref q3, .ref q13])), (q1, .inl (cA2, 12, .inr (.inr (.inr (.inr (fun _ => none)))))), (q3, .inr (5, [.ref pc96, .int 0, .ref tg7, .ref fx8, .int 0])), (pc96, .inl (cP9, 8, .inr (.inl (fun _ => 0)))), (tg7, .inl (cT10, 6, .inl (fun _ => 0))), (fx8, .inl (cX11, 6, .inl (fun _ => 0))), (q13, .inr (5, [.ref pc916, .int 0, .ref tg17, .ref fx18, .int 0])), (pc916, .inl (cP19, 8, .inr (.inl (fun _ => 0)))), (tg17, .inl (cT20, 6, .inl (fun _ => 0))), (fx18, .inl (cX21, 6, .inl (fun _ => 0)))]) [0, 1, 2, 3, 4, 5, 6, 7, 8, 9] (by decide) rfl
  have hK9 := hK.sub (tys' := [(cA2, .object "DrawingVault$Revision"), (cP9, .long), (cT10, .int), (cX11, .int), (cP19, .long), (cT20, .int), (cX21, .int)]) [0, 1, 2, 3, 4, 5, 6] rfl
  exact W.vret (pc := 40) hx hb hr (fun t ht hW => ⟨⟨(), rfl, trivial, q1, cA2, q3, pc96, tg7, fx8, cP9, cT10, cX11, q13, pc916, tg17, fx18, cP19, cT20, cX21, by rw [ht]; exact hP9, va_K.moved hW.alike hK9, hD9⟩, hS.F ht⟩) hS.2.2 dD_init_40
set_option maxHeartbeats 4000000 in
set_option maxRecDepth 100000 in
theorem gv_init (l : Launch) (dC : Nat → ClassId) (dI : Nat → Nat → Nat) (sz : Nat) (x : Nat) : Met l yV_init (.code yV_init cV_init 1 none :: aw) ({ frames := 2, cells := 10, slots := 2094, locals := 43 }) (pW (dC, dI) sz [(x, .inr (0, [.null, .null, .int 0, .int 0, .null, .null, .null, .null, .int 0]))] [] [.ref x]) (va_Qv (fun (_ : Unit) => True) (fun _ t => ∃ (rt : Nat) (dr : Nat) (bs : Nat) (df : Nat) (dv : Nat) (do9 : Nat) (ch : Nat) (cp : Nat) (cn : Nat) (pg : Nat) (cR : ClassId) (cD : ClassId) (cB : ClassId) (cF : ClassId) (cO : ClassId) (cP : ClassId) (cL : ClassId), wW (dC, dI) (va_A [(x, .inr (0, [.null, .null, .int 0, .int 0, .null, .null, .null, .null, .int 0]))] sz) [(x, .inr (0, [.ref rt, .ref dr, .int 0, .int 0, .ref bs, .ref df, .ref ch, .ref pg, .int 0])), (rt, .inl (cR, 16, .inl (fun _ => 0))), (dr, .inl (cD, 24, .inr (.inr (.inr (.inr (fun _ => none)))))), (bs, .inl (cB, 10, .inr (.inr (.inr (.inr (fun _ => none)))))), (df, .inr (1, [.ref dv, .ref do9, .int 0])), (dv, .inl (cF, 24, .inl (c_fl (fun _ => 0) (-1) 24))), (do9, .inl (cO, 24, .inl (fun _ => 0))), (ch, .inr (2, [.ref cp, .ref cn, .int 0])), (cp, .inl (cP, 992, .inr (.inl (fun _ => 0)))), (cn, .inl (cL, 992, .inl (fun _ => 0))), (pg, .inr (3, [.int 400, .int 0, .int 0, .int 0, .int 0, .int 0]))] [(cR, .int), (cD, .object "DrawingVault$Drawing"), (cB, .object "DrawingVault$Baseline"), (cF, .int), (cO, .int), (cP, .long), (cL, .byte)] t) (va_A [(x, .inr (0, [.null, .null, .int 0, .int 0, .null, .null, .null, .null, .int 0]))] sz)) 10 2094 (va_A [(x, .inr (0, [.null, .null, .int 0, .int 0, .null, .null, .null, .null, .int 0]))] sz) := by
  refine Met.ofW (cc := cV_init) (maxL := 1) (ret := none) (by decide) rfl ?_
  intro p e s m args below meth c s₁ B hml hv
  obtain ⟨rfl, hv⟩ := hv
  have hx := B.exec
  have hb := B.bytes
  have hr := B.returns
  have hts : ∀ w ∈ aw, w.before _ s = true := fun w h => atoms_spec (ws := (.code yV_init cV_init 1 none :: aw)) B.pre w (List.mem_cons_of_mem _ h)
  have hown : s.vm.findClass RV = some m.cls := findClass_of_methodNamed B.named
  have hlocks := B.notSynchronized
  have hin : meth.name = "<init>" := (name_of_methodNamed B.named B.method).1
  obtain ⟨hsz, hP, hK, hD0, hG⟩ := hv
  subst hsz
  have hD := hD0.self (sz := s.heap.size)
  generalize hAe : va_A [(x, .inr (0, [.null, .null, .int 0, .int 0, .null, .null, .null, .null, .int 0]))] s.heap.size = A at hD ⊢
  have hA : ∀ q : Nat, s.heap.size ≤ q → A q := fun q h => by rw [← hAe]; exact Or.inr h
  obtain ⟨H, hH⟩ : ∃ H, H = s.heap := ⟨_, rfl⟩
  have hS : va_S A s.heap H [] := by rw [hH]; exact va_S.rf
  rw [← hH] at hP ⊢
  have hP : va_P (dC, dI) kCl [(x, .inr (0, [.null, .null, .int 0, .int 0, .null, .null, .null, .null, .int 0]))] H := hP
  have hl := lv_entry ([.ref x]) (n := 1) (Nat.le_of_ble_eq_true rfl)
  rw [lg_entry_eq]
  generalize (lg_sl ([.ref x]) ++ List.replicate (1 - (lg_sl ([.ref x])).length) Slot.unset).toArray = ls at hl ⊢
  have hl : lv_has ls 1 [(0, .ref x)] := hl
  refine lv_aload_n (pc := 0) hx hb dV_init_0 rfl (lv_at hl 0 rfl) ?_
  refine W.objInit hx hb hown (hts _ wd_659) (hts _ wd_590) (hts _ wd_591) rfl (by rw [hml]; exact hl.1) rfl dV_init_1 (Nat.le_of_ble_eq_true rfl) (Nat.le_of_ble_eq_true rfl) ?_
  refine W.eq (g2 := F0 m 4 ls []) rfl ?_
  refine lv_aload_n (pc := 4) hx hb dV_init_4 rfl (lv_at hl 0 rfl) ?_
  refine lv_bipush (pc := 5) (v := 16) hx hb dV_init_5 (by decide) ?_
  refine va_newa (atype := .int) (D := (dC, dI)) (cl := kCl) (pc := 7) (ty := .int) (n := 16) (N' := 16) (a0 := (16, .inl (fun _ => 0))) hx hb (hts _ wd_642) rfl hK hP hD hS hA (fun cA => rfl) (by decide) (by decide) (by decide) (Nat.le_of_ble_eq_true rfl) (Nat.le_of_ble_eq_true rfl) dV_init_7 (fun q1 cA2 H hK hP hD hS => ?_)
  have hP : va_P (dC, dI) kCl [(x, .inr (0, [.null, .null, .int 0, .int 0, .null, .null, .null, .null, .int 0])), (q1, .inl (cA2, 16, .inl (fun _ => 0)))] H := hP
  have hD : va_D A [(x, .inr (0, [.null, .null, .int 0, .int 0, .null, .null, .null, .null, .int 0])), (q1, .inl (cA2, 16, .inl (fun _ => 0)))] := hD
  have hK : va_K (dC, dI) kCl [(cA2, .int)] s := hK
  refine W.widen (k := 1) (n := 16) (Nat.le_of_ble_eq_true rfl) (Nat.le_of_ble_eq_true rfl) ?_
  refine va_putF (D := (dC, dI)) (cl := kCl) (ci := 0) (v := .ref q1) (ty := (.array .int)) (C := RV) (T := TV) (N := 9) (pc := 9) hx hb hts inV tyV tyV_ok nmV hown hK hP hD hS 0 rfl rfl 0 (by decide) (hts _ wd_313) (fun _ h9 => h9) rfl hin rfl (by decide +kernel) rfl rfl (Nat.le_of_ble_eq_true rfl) dV_init_9 (fun H locs hP hD hS => ?_)
  have hP : va_P (dC, dI) kCl [(x, .inr (0, [.ref q1, .null, .int 0, .int 0, .null, .null, .null, .null, .int 0])), (q1, .inl (cA2, 16, .inl (fun _ => 0)))] H := hP
  have hD : va_D A [(x, .inr (0, [.ref q1, .null, .int 0, .int 0, .null, .null, .null, .null, .int 0])), (q1, .inl (cA2, 16, .inl (fun _ => 0)))] := hD
  refine lv_aload_n (pc := 12) hx hb dV_init_12 rfl (lv_at hl 0 rfl) ?_
  refine lv_bipush (pc := 13) (v := 24) hx hb dV_init_13 (by decide) ?_
  refine va_newq (D := (dC, dI)) (cl := kCl) (pc := 15) (n := 24) (N' := 24) (C := "DrawingVault$Drawing") hx hb hown (hts _ wd_660) (eG_oD hG) hK hP hD hS hA (by decide) (by decide) (by decide) (Nat.le_of_ble_eq_true rfl) (Nat.le_of_ble_eq_true rfl) dV_init_15 (fun q3 cA4 H hK hP hD hS => ?_)
  have hP : va_P (dC, dI) kCl [(x, .inr (0, [.ref q1, .null, .int 0, .int 0, .null, .null, .null, .null, .int 0])), (q1, .inl (cA2, 16, .inl (fun _ => 0))), (q3, .inl (cA4, 24, .inr (.inr (.inr (.inr (fun _ => none))))))] H := hP
  have hD : va_D A [(x, .inr (0, [.ref q1, .null, .int 0, .int 0, .null, .null, .null, .null, .int 0])), (q1, .inl (cA2, 16, .inl (fun _ => 0))), (q3, .inl (cA4, 24, .inr (.inr (.inr (.inr (fun _ => none))))))] := hD
  have hK : va_K (dC, dI) kCl [(cA2, .int), (cA4, .object "DrawingVault$Drawing")] s := hK
  refine W.widen (k := 2) (n := 40) (Nat.le_of_ble_eq_true rfl) (Nat.le_of_ble_eq_true rfl) ?_
  refine va_putF (D := (dC, dI)) (cl := kCl) (ci := 0) (v := .ref q3) (ty := (.array (.object "DrawingVault$Drawing"))) (C := RV) (T := TV) (N := 9) (pc := 18) hx hb hts inV tyV tyV_ok nmV hown hK hP hD hS 0 rfl rfl 1 (by decide) (hts _ wd_315) (fun _ h9 => h9) rfl hin rfl (by decide +kernel) rfl rfl (Nat.le_of_ble_eq_true rfl) dV_init_18 (fun H locs hP hD hS => ?_)
  have hP : va_P (dC, dI) kCl [(x, .inr (0, [.ref q1, .ref q3, .int 0, .int 0, .null, .null, .null, .null, .int 0])), (q1, .inl (cA2, 16, .inl (fun _ => 0))), (q3, .inl (cA4, 24, .inr (.inr (.inr (.inr (fun _ => none))))))] H := hP
  have hD : va_D A [(x, .inr (0, [.ref q1, .ref q3, .int 0, .int 0, .null, .null, .null, .null, .int 0])), (q1, .inl (cA2, 16, .inl (fun _ => 0))), (q3, .inl (cA4, 24, .inr (.inr (.inr (.inr (fun _ => none))))))] := hD
  refine lv_aload_n (pc := 21) hx hb dV_init_21 rfl (lv_at hl 0 rfl) ?_
  refine lv_bipush (pc := 22) (v := 10) hx hb dV_init_22 (by decide) ?_
  refine va_newq (D := (dC, dI)) (cl := kCl) (pc := 24) (n := 10) (N' := 10) (C := "DrawingVault$Baseline") hx hb hown (hts _ wd_661) (eG_oB hG) hK hP hD hS hA (by decide) (by decide) (by decide) (Nat.le_of_ble_eq_true rfl) (Nat.le_of_ble_eq_true rfl) dV_init_24 (fun q5 cA6 H hK hP hD hS => ?_)
  have hP : va_P (dC, dI) kCl [(x, .inr (0, [.ref q1, .ref q3, .int 0, .int 0, .null, .null, .null, .null, .int 0])), (q1, .inl (cA2, 16, .inl (fun _ => 0))), (q3, .inl (cA4, 24, .inr (.inr (.inr (.inr (fun _ => none)))))), (q5, .inl (cA6, 10, .inr (.inr (.inr (.inr (fun _ => none))))))] H := hP
  have hD : va_D A [(x, .inr (0, [.ref q1, .ref q3, .int 0, .int 0, .null, .null, .null, .null, .int 0])), (q1, .inl (cA2, 16, .inl (fun _ => 0))), (q3, .inl (cA4, 24, .inr (.inr (.inr (.inr (fun _ => none)))))), (q5, .inl (cA6, 10, .inr (.inr (.inr (.inr (fun _ => none))))))] := hD
  have hK : va_K (dC, dI) kCl [(cA2, .int), (cA4, .object "DrawingVault$Drawing"), (cA6, .object "DrawingVault$Baseline")] s := hK
  refine W.widen (k := 3) (n := 50) (Nat.le_of_ble_eq_true rfl) (Nat.le_of_ble_eq_true rfl) ?_
  refine va_putF (D := (dC, dI)) (cl := kCl) (ci := 0) (v := .ref q5) (ty := (.array (.object "DrawingVault$Baseline"))) (C := RV) (T := TV) (N := 9) (pc := 27) hx hb hts inV tyV tyV_ok nmV hown hK hP hD hS 0 rfl rfl 4 (by decide) (hts _ wd_322) (fun _ h9 => h9) rfl hin rfl (by decide +kernel) rfl rfl (Nat.le_of_ble_eq_true rfl) dV_init_27 (fun H locs hP hD hS => ?_)
  have hP : va_P (dC, dI) kCl [(x, .inr (0, [.ref q1, .ref q3, .int 0, .int 0, .ref q5, .null, .null, .null, .int 0])), (q1, .inl (cA2, 16, .inl (fun _ => 0))), (q3, .inl (cA4, 24, .inr (.inr (.inr (.inr (fun _ => none)))))), (q5, .inl (cA6, 10, .inr (.inr (.inr (.inr (fun _ => none))))))] H := hP
  have hD : va_D A [(x, .inr (0, [.ref q1, .ref q3, .int 0, .int 0, .ref q5, .null, .null, .null, .int 0])), (q1, .inl (cA2, 16, .inl (fun _ => 0))), (q3, .inl (cA4, 24, .inr (.inr (.inr (.inr (fun _ => none)))))), (q5, .inl (cA6, 10, .inr (.inr (.inr (.inr (fun _ => none))))))] := hD
  refine lv_aload_n (pc := 30) hx hb dV_init_30 rfl (lv_at hl 0 rfl) ?_
  refine va_new (D := (dC, dI)) (cl := kCl) (pc := 31) (ci := 1) (fs := [.null, .null, .int 0]) (C := RB) (T := TB) (N := 3) hx hb hts inB tyB tyB_ok hown (hts _ wd_661) (hts _ wd_662) (hts _ wd_378) hK hP hD hS hA rfl (fun j hj => by rcases (show j = 0 ∨ j = 1 ∨ j = 2 by omega) with rfl | rfl | rfl <;> rfl) (Nat.le_of_ble_eq_true rfl) (Nat.le_of_ble_eq_true rfl) dV_init_31 (fun q7 H hP hD hS => ?_)
  have hP : va_P (dC, dI) kCl [(x, .inr (0, [.ref q1, .ref q3, .int 0, .int 0, .ref q5, .null, .null, .null, .int 0])), (q1, .inl (cA2, 16, .inl (fun _ => 0))), (q3, .inl (cA4, 24, .inr (.inr (.inr (.inr (fun _ => none)))))), (q5, .inl (cA6, 10, .inr (.inr (.inr (.inr (fun _ => none)))))), (q7, .inr (1, [.null, .null, .int 0]))] H := hP
  have hD : va_D A [(x, .inr (0, [.ref q1, .ref q3, .int 0, .int 0, .ref q5, .null, .null, .null, .int 0])), (q1, .inl (cA2, 16, .inl (fun _ => 0))), (q3, .inl (cA4, 24, .inr (.inr (.inr (.inr (fun _ => none)))))), (q5, .inl (cA6, 10, .inr (.inr (.inr (.inr (fun _ => none)))))), (q7, .inr (1, [.null, .null, .int 0]))] := hD
  have hK : va_K (dC, dI) kCl [(cA2, .int), (cA4, .object "DrawingVault$Drawing"), (cA6, .object "DrawingVault$Baseline")] s := hK
  refine W.widen (k := 4) (n := 53) (Nat.le_of_ble_eq_true rfl) (Nat.le_of_ble_eq_true rfl) ?_
  refine lv_dup (pc := 34) hx hb dV_init_34 rfl ?_
  have hPc := hP.sub (ws' := [(q7, .inr (1, [.null, .null, .int 0]))]) [4] rfl
  have hDc := hD.sub (ws' := [(q7, .inr (1, [.null, .null, .int 0]))]) [4] (by decide) rfl
  have hKc := hK.sub (tys' := []) [] rfl
  have hFc := va_free (wc := [(q7, .inr (1, [.null, .null, .int 0]))]) hD hS hA [4] rfl
  refine va_callv (pc := 35) (va_runI (As := []) (rest := [.ref q7, .ref x]) ⟨hx, hb, hml, hown, hts⟩ (gb_init l dC dI H.size q7) (cwI 0 hts (gI wd_663) rfl rfl rfl (hts _ wd_378) (hts _ wd_664) (hts _ wd_665) rfl (by decide +kernel) ⟨Nat.le_of_ble_eq_true rfl, Nat.le_of_ble_eq_true rfl⟩) ⟨pW_blind, pW_pre hPc hKc hDc hG⟩ rfl rfl hl.1 rfl (lv_room (Nat.le_of_ble_eq_true rfl)) dV_init_35 ⟨Nat.le_of_ble_eq_true rfl, Nat.le_of_ble_eq_true rfl⟩) hS (fun q _ h => hFc q h) hFc (fun u t H1 locs ht hvm hr9 hB hz1 hk1 hS => ?_)
  obtain ⟨dv10, do911, cF12, cO13, hP1, hK1, hD1⟩ := hB
  rw [ht] at hP1
  have hK1 := va_K.moved hvm.symm hK1
  obtain ⟨hP, hD⟩ := va_join (wr := [(x, .inr (0, [.ref q1, .ref q3, .int 0, .int 0, .ref q5, .null, .null, .null, .int 0])), (q1, .inl (cA2, 16, .inl (fun _ => 0))), (q3, .inl (cA4, 24, .inr (.inr (.inr (.inr (fun _ => none)))))), (q5, .inl (cA6, 10, .inr (.inr (.inr (.inr (fun _ => none))))))]) (w1 := [(q7, .inr (1, [.ref dv10, .ref do911, .int 0])), (dv10, .inl (cF12, 24, .inl (c_fl (fun _ => 0) (-1) 24))), (do911, .inl (cO13, 24, .inl (fun _ => 0)))]) hP hD [4] [0, 1, 2, 3] rfl rfl (by decide) (by decide) hk1 hFc hP1 hD1
  generalize H1 = H at hP hS ⊢
  have hK := hK.app hK1
  have hK : va_K (dC, dI) kCl [(cA2, .int), (cA4, .object "DrawingVault$Drawing"), (cA6, .object "DrawingVault$Baseline"), (cF12, .int), (cO13, .int)] s := hK
  have hP : va_P (dC, dI) kCl [(x, .inr (0, [.ref q1, .ref q3, .int 0, .int 0, .ref q5, .null, .null, .null, .int 0])), (q1, .inl (cA2, 16, .inl (fun _ => 0))), (q3, .inl (cA4, 24, .inr (.inr (.inr (.inr (fun _ => none)))))), (q5, .inl (cA6, 10, .inr (.inr (.inr (.inr (fun _ => none)))))), (q7, .inr (1, [.ref dv10, .ref do911, .int 0])), (dv10, .inl (cF12, 24, .inl (c_fl (fun _ => 0) (-1) 24))), (do911, .inl (cO13, 24, .inl (fun _ => 0)))] H := hP
  have hD : va_D A [(x, .inr (0, [.ref q1, .ref q3, .int 0, .int 0, .ref q5, .null, .null, .null, .int 0])), (q1, .inl (cA2, 16, .inl (fun _ => 0))), (q3, .inl (cA4, 24, .inr (.inr (.inr (.inr (fun _ => none)))))), (q5, .inl (cA6, 10, .inr (.inr (.inr (.inr (fun _ => none)))))), (q7, .inr (1, [.ref dv10, .ref do911, .int 0])), (dv10, .inl (cF12, 24, .inl (c_fl (fun _ => 0) (-1) 24))), (do911, .inl (cO13, 24, .inl (fun _ => 0)))] := hD
  refine W.widen (k := 6) (n := 101) (Nat.le_of_ble_eq_true rfl) (Nat.le_of_ble_eq_true rfl) ?_
  refine va_put (D := (dC, dI)) (cl := kCl) (ci := 0) (v := .ref q7) (ty := (.object "DrawingVault$Baseline")) (C := RV) (T := TV) (N := 9) (pc := 38) hx hb hts inV tyV tyV_ok nmV hown hK hP hD hS 0 rfl rfl 5 (by decide) (hts _ wd_427) (fun _ h9 => h9) rfl (by decide +kernel) rfl rfl (Nat.le_of_ble_eq_true rfl) dV_init_38 (fun H locs hP hD hS => ?_)
  have hP : va_P (dC, dI) kCl [(x, .inr (0, [.ref q1, .ref q3, .int 0, .int 0, .ref q5, .ref q7, .null, .null, .int 0])), (q1, .inl (cA2, 16, .inl (fun _ => 0))), (q3, .inl (cA4, 24, .inr (.inr (.inr (.inr (fun _ => none)))))), (q5, .inl (cA6, 10, .inr (.inr (.inr (.inr (fun _ => none)))))), (q7, .inr (1, [.ref dv10, .ref do911, .int 0])), (dv10, .inl (cF12, 24, .inl (c_fl (fun _ => 0) (-1) 24))), (do911, .inl (cO13, 24, .inl (fun _ => 0)))] H := hP
  have hD : va_D A [(x, .inr (0, [.ref q1, .ref q3, .int 0, .int 0, .ref q5, .ref q7, .null, .null, .int 0])), (q1, .inl (cA2, 16, .inl (fun _ => 0))), (q3, .inl (cA4, 24, .inr (.inr (.inr (.inr (fun _ => none)))))), (q5, .inl (cA6, 10, .inr (.inr (.inr (.inr (fun _ => none)))))), (q7, .inr (1, [.ref dv10, .ref do911, .int 0])), (dv10, .inl (cF12, 24, .inl (c_fl (fun _ => 0) (-1) 24))), (do911, .inl (cO13, 24, .inl (fun _ => 0)))] := hD
  refine lv_aload_n (pc := 41) hx hb dV_init_41 rfl (lv_at hl 0 rfl) ?_
  refine va_new (D := (dC, dI)) (cl := kCl) (pc := 42) (ci := 2) (fs := [.null, .null, .int 0]) (C := RK) (T := TK) (N := 3) hx hb hts inK tyK tyK_ok hown (hts _ wd_666) (hts _ wd_667) (hts _ wd_275) hK hP hD hS hA rfl (fun j hj => by rcases (show j = 0 ∨ j = 1 ∨ j = 2 by omega) with rfl | rfl | rfl <;> rfl) (Nat.le_of_ble_eq_true rfl) (Nat.le_of_ble_eq_true rfl) dV_init_42 (fun q15 H hP hD hS => ?_)
  have hP : va_P (dC, dI) kCl [(x, .inr (0, [.ref q1, .ref q3, .int 0, .int 0, .ref q5, .ref q7, .null, .null, .int 0])), (q1, .inl (cA2, 16, .inl (fun _ => 0))), (q3, .inl (cA4, 24, .inr (.inr (.inr (.inr (fun _ => none)))))), (q5, .inl (cA6, 10, .inr (.inr (.inr (.inr (fun _ => none)))))), (q7, .inr (1, [.ref dv10, .ref do911, .int 0])), (dv10, .inl (cF12, 24, .inl (c_fl (fun _ => 0) (-1) 24))), (do911, .inl (cO13, 24, .inl (fun _ => 0))), (q15, .inr (2, [.null, .null, .int 0]))] H := hP
  have hD : va_D A [(x, .inr (0, [.ref q1, .ref q3, .int 0, .int 0, .ref q5, .ref q7, .null, .null, .int 0])), (q1, .inl (cA2, 16, .inl (fun _ => 0))), (q3, .inl (cA4, 24, .inr (.inr (.inr (.inr (fun _ => none)))))), (q5, .inl (cA6, 10, .inr (.inr (.inr (.inr (fun _ => none)))))), (q7, .inr (1, [.ref dv10, .ref do911, .int 0])), (dv10, .inl (cF12, 24, .inl (c_fl (fun _ => 0) (-1) 24))), (do911, .inl (cO13, 24, .inl (fun _ => 0))), (q15, .inr (2, [.null, .null, .int 0]))] := hD
  have hK : va_K (dC, dI) kCl [(cA2, .int), (cA4, .object "DrawingVault$Drawing"), (cA6, .object "DrawingVault$Baseline"), (cF12, .int), (cO13, .int)] s := hK
  refine W.widen (k := 7) (n := 104) (Nat.le_of_ble_eq_true rfl) (Nat.le_of_ble_eq_true rfl) ?_
  refine lv_dup (pc := 45) hx hb dV_init_45 rfl ?_
  have hPc := hP.sub (ws' := [(q15, .inr (2, [.null, .null, .int 0]))]) [7] rfl
  have hDc := hD.sub (ws' := [(q15, .inr (2, [.null, .null, .int 0]))]) [7] (by decide) rfl
  have hKc := hK.sub (tys' := []) [] rfl
  have hFc := va_free (wc := [(q15, .inr (2, [.null, .null, .int 0]))]) hD hS hA [7] rfl
  refine va_callv (pc := 46) (va_runIN (As := []) (rest := [.ref q15, .ref x]) ⟨hx, hb, hml, hown, hts⟩ (gk_init l dC dI H.size q15) (⟨va_cnB 0 hts (gI wd_668) rfl rfl rfl (eG_V32 hG) (hts _ wd_275) (by decide +kernel) ⟨Nat.le_of_ble_eq_true rfl, Nat.le_of_ble_eq_true rfl⟩, rfl, hts _ wd_669⟩) ⟨pW_blind, pW_pre hPc hKc hDc hG⟩ rfl rfl hl.1 rfl (lv_room (Nat.le_of_ble_eq_true rfl)) dV_init_46 ⟨Nat.le_of_ble_eq_true rfl, Nat.le_of_ble_eq_true rfl⟩) hS (fun q _ h => hFc q h) hFc (fun u t H1 locs ht hvm hr17 hB hz1 hk1 hS => ?_)
  obtain ⟨cp18, cn19, cP20, cL21, hP1, hK1, hD1⟩ := hB
  rw [ht] at hP1
  have hK1 := va_K.moved hvm.symm hK1
  obtain ⟨hP, hD⟩ := va_join (wr := [(x, .inr (0, [.ref q1, .ref q3, .int 0, .int 0, .ref q5, .ref q7, .null, .null, .int 0])), (q1, .inl (cA2, 16, .inl (fun _ => 0))), (q3, .inl (cA4, 24, .inr (.inr (.inr (.inr (fun _ => none)))))), (q5, .inl (cA6, 10, .inr (.inr (.inr (.inr (fun _ => none)))))), (q7, .inr (1, [.ref dv10, .ref do911, .int 0])), (dv10, .inl (cF12, 24, .inl (c_fl (fun _ => 0) (-1) 24))), (do911, .inl (cO13, 24, .inl (fun _ => 0)))]) (w1 := [(q15, .inr (2, [.ref cp18, .ref cn19, .int 0])), (cp18, .inl (cP20, 992, .inr (.inl (fun _ => 0)))), (cn19, .inl (cL21, 992, .inl (fun _ => 0)))]) hP hD [7] [0, 1, 2, 3, 4, 5, 6] rfl rfl (by decide) (by decide) hk1 hFc hP1 hD1
  generalize H1 = H at hP hS ⊢
  have hK := hK.app hK1
  have hK : va_K (dC, dI) kCl [(cA2, .int), (cA4, .object "DrawingVault$Drawing"), (cA6, .object "DrawingVault$Baseline"), (cF12, .int), (cO13, .int), (cP20, .long), (cL21, .byte)] s := hK
  have hP : va_P (dC, dI) kCl [(x, .inr (0, [.ref q1, .ref q3, .int 0, .int 0, .ref q5, .ref q7, .null, .null, .int 0])), (q1, .inl (cA2, 16, .inl (fun _ => 0))), (q3, .inl (cA4, 24, .inr (.inr (.inr (.inr (fun _ => none)))))), (q5, .inl (cA6, 10, .inr (.inr (.inr (.inr (fun _ => none)))))), (q7, .inr (1, [.ref dv10, .ref do911, .int 0])), (dv10, .inl (cF12, 24, .inl (c_fl (fun _ => 0) (-1) 24))), (do911, .inl (cO13, 24, .inl (fun _ => 0))), (q15, .inr (2, [.ref cp18, .ref cn19, .int 0])), (cp18, .inl (cP20, 992, .inr (.inl (fun _ => 0)))), (cn19, .inl (cL21, 992, .inl (fun _ => 0)))] H := hP
  have hD : va_D A [(x, .inr (0, [.ref q1, .ref q3, .int 0, .int 0, .ref q5, .ref q7, .null, .null, .int 0])), (q1, .inl (cA2, 16, .inl (fun _ => 0))), (q3, .inl (cA4, 24, .inr (.inr (.inr (.inr (fun _ => none)))))), (q5, .inl (cA6, 10, .inr (.inr (.inr (.inr (fun _ => none)))))), (q7, .inr (1, [.ref dv10, .ref do911, .int 0])), (dv10, .inl (cF12, 24, .inl (c_fl (fun _ => 0) (-1) 24))), (do911, .inl (cO13, 24, .inl (fun _ => 0))), (q15, .inr (2, [.ref cp18, .ref cn19, .int 0])), (cp18, .inl (cP20, 992, .inr (.inl (fun _ => 0)))), (cn19, .inl (cL21, 992, .inl (fun _ => 0)))] := hD
  refine W.widen (k := 9) (n := 2088) (Nat.le_of_ble_eq_true rfl) (Nat.le_of_ble_eq_true rfl) ?_
  refine va_putF (D := (dC, dI)) (cl := kCl) (ci := 0) (v := .ref q15) (ty := (.object "DrawingVault$ChunkSet")) (C := RV) (T := TV) (N := 9) (pc := 49) hx hb hts inV tyV tyV_ok nmV hown hK hP hD hS 0 rfl rfl 6 (by decide) (hts _ wd_360) (fun _ h9 => h9) rfl hin rfl (by decide +kernel) rfl rfl (Nat.le_of_ble_eq_true rfl) dV_init_49 (fun H locs hP hD hS => ?_)
  have hP : va_P (dC, dI) kCl [(x, .inr (0, [.ref q1, .ref q3, .int 0, .int 0, .ref q5, .ref q7, .ref q15, .null, .int 0])), (q1, .inl (cA2, 16, .inl (fun _ => 0))), (q3, .inl (cA4, 24, .inr (.inr (.inr (.inr (fun _ => none)))))), (q5, .inl (cA6, 10, .inr (.inr (.inr (.inr (fun _ => none)))))), (q7, .inr (1, [.ref dv10, .ref do911, .int 0])), (dv10, .inl (cF12, 24, .inl (c_fl (fun _ => 0) (-1) 24))), (do911, .inl (cO13, 24, .inl (fun _ => 0))), (q15, .inr (2, [.ref cp18, .ref cn19, .int 0])), (cp18, .inl (cP20, 992, .inr (.inl (fun _ => 0)))), (cn19, .inl (cL21, 992, .inl (fun _ => 0)))] H := hP
  have hD : va_D A [(x, .inr (0, [.ref q1, .ref q3, .int 0, .int 0, .ref q5, .ref q7, .ref q15, .null, .int 0])), (q1, .inl (cA2, 16, .inl (fun _ => 0))), (q3, .inl (cA4, 24, .inr (.inr (.inr (.inr (fun _ => none)))))), (q5, .inl (cA6, 10, .inr (.inr (.inr (.inr (fun _ => none)))))), (q7, .inr (1, [.ref dv10, .ref do911, .int 0])), (dv10, .inl (cF12, 24, .inl (c_fl (fun _ => 0) (-1) 24))), (do911, .inl (cO13, 24, .inl (fun _ => 0))), (q15, .inr (2, [.ref cp18, .ref cn19, .int 0])), (cp18, .inl (cP20, 992, .inr (.inl (fun _ => 0)))), (cn19, .inl (cL21, 992, .inl (fun _ => 0)))] := hD
  refine lv_aload_n (pc := 52) hx hb dV_init_52 rfl (lv_at hl 0 rfl) ?_
  refine va_new (D := (dC, dI)) (cl := kCl) (pc := 53) (ci := 3) (fs := [.int 0, .int 0, .int 0, .int 0, .int 0, .int 0]) (C := RP) (T := TP) (N := 6) hx hb hts inP tyP tyP_ok hown (hts _ wd_670) (hts _ wd_671) (hts _ wd_385) hK hP hD hS hA rfl (fun j hj => by rcases (show j = 0 ∨ j = 1 ∨ j = 2 ∨ j = 3 ∨ j = 4 ∨ j = 5 by omega) with rfl | rfl | rfl | rfl | rfl | rfl <;> rfl) (Nat.le_of_ble_eq_true rfl) (Nat.le_of_ble_eq_true rfl) dV_init_53 (fun q23 H hP hD hS => ?_)
  have hP : va_P (dC, dI) kCl [(x, .inr (0, [.ref q1, .ref q3, .int 0, .int 0, .ref q5, .ref q7, .ref q15, .null, .int 0])), (q1, .inl (cA2, 16, .inl (fun _ => 0))), (q3, .inl (cA4, 24, .inr (.inr (.inr (.inr (fun _ => none)))))), (q5, .inl (cA6, 10, .inr (.inr (.inr (.inr (fun _ => none)))))), (q7, .inr (1, [.ref dv10, .ref do911, .int 0])), (dv10, .inl (cF12, 24, .inl (c_fl (fun _ => 0) (-1) 24))), (do911, .inl (cO13, 24, .inl (fun _ => 0))), (q15, .inr (2, [.ref cp18, .ref cn19, .int 0])), (cp18, .inl (cP20, 992, .inr (.inl (fun _ => 0)))), (cn19, .inl (cL21, 992, .inl (fun _ => 0))), (q23, .inr (3, [.int 0, .int 0, .int 0, .int 0, .int 0, .int 0]))] H := hP
  have hD : va_D A [(x, .inr (0, [.ref q1, .ref q3, .int 0, .int 0, .ref q5, .ref q7, .ref q15, .null, .int 0])), (q1, .inl (cA2, 16, .inl (fun _ => 0))), (q3, .inl (cA4, 24, .inr (.inr (.inr (.inr (fun _ => none)))))), (q5, .inl (cA6, 10, .inr (.inr (.inr (.inr (fun _ => none)))))), (q7, .inr (1, [.ref dv10, .ref do911, .int 0])), (dv10, .inl (cF12, 24, .inl (c_fl (fun _ => 0) (-1) 24))), (do911, .inl (cO13, 24, .inl (fun _ => 0))), (q15, .inr (2, [.ref cp18, .ref cn19, .int 0])), (cp18, .inl (cP20, 992, .inr (.inl (fun _ => 0)))), (cn19, .inl (cL21, 992, .inl (fun _ => 0))), (q23, .inr (3, [.int 0, .int 0, .int 0, .int 0, .int 0, .int 0]))] := hD
  have hK : va_K (dC, dI) kCl [(cA2, .int), (cA4, .object "DrawingVault$Drawing"), (cA6, .object "DrawingVault$Baseline"), (cF12, .int), (cO13, .int), (cP20, .long), (cL21, .byte)] s := hK
  refine W.widen (k := 10) (n := 2094) (Nat.le_of_ble_eq_true rfl) (Nat.le_of_ble_eq_true rfl) ?_
  refine lv_dup (pc := 56) hx hb dV_init_56 rfl ?_
  have hPc := hP.sub (ws' := [(q23, .inr (3, [.int 0, .int 0, .int 0, .int 0, .int 0, .int 0]))]) [10] rfl
  have hDc := hD.sub (ws' := [(q23, .inr (3, [.int 0, .int 0, .int 0, .int 0, .int 0, .int 0]))]) [10] (by decide) rfl
  have hKc := hK.sub (tys' := []) [] rfl
  have hFc := va_free (wc := [(q23, .inr (3, [.int 0, .int 0, .int 0, .int 0, .int 0, .int 0]))]) hD hS hA [10] rfl
  refine va_callv (pc := 57) (va_runIN (As := []) (rest := [.ref q23, .ref x]) ⟨hx, hb, hml, hown, hts⟩ (gp_init l dC dI H.size q23) (⟨va_cnB 0 hts (gI wd_672) rfl rfl rfl (eG_V39 hG) (hts _ wd_385) (by decide +kernel) ⟨Nat.le_of_ble_eq_true rfl, Nat.le_of_ble_eq_true rfl⟩, rfl, hts _ wd_673⟩) ⟨pW_blind, pW_pre hPc hKc hDc hG⟩ rfl rfl hl.1 rfl (lv_room (Nat.le_of_ble_eq_true rfl)) dV_init_57 ⟨Nat.le_of_ble_eq_true rfl, Nat.le_of_ble_eq_true rfl⟩) hS (fun q _ h => hFc q h) hFc (fun u t H1 locs ht hvm hr25 hB hz1 hk1 hS => ?_)
  obtain ⟨hP1, hK1, hD1⟩ := hB
  rw [ht] at hP1
  have hK1 := va_K.moved hvm.symm hK1
  obtain ⟨hP, hD⟩ := va_join (wr := [(x, .inr (0, [.ref q1, .ref q3, .int 0, .int 0, .ref q5, .ref q7, .ref q15, .null, .int 0])), (q1, .inl (cA2, 16, .inl (fun _ => 0))), (q3, .inl (cA4, 24, .inr (.inr (.inr (.inr (fun _ => none)))))), (q5, .inl (cA6, 10, .inr (.inr (.inr (.inr (fun _ => none)))))), (q7, .inr (1, [.ref dv10, .ref do911, .int 0])), (dv10, .inl (cF12, 24, .inl (c_fl (fun _ => 0) (-1) 24))), (do911, .inl (cO13, 24, .inl (fun _ => 0))), (q15, .inr (2, [.ref cp18, .ref cn19, .int 0])), (cp18, .inl (cP20, 992, .inr (.inl (fun _ => 0)))), (cn19, .inl (cL21, 992, .inl (fun _ => 0)))]) (w1 := [(q23, .inr (3, [.int 400, .int 0, .int 0, .int 0, .int 0, .int 0]))]) hP hD [10] [0, 1, 2, 3, 4, 5, 6, 7, 8, 9] rfl rfl (by decide) (by decide) hk1 hFc hP1 hD1
  generalize H1 = H at hP hS ⊢
  have hP : va_P (dC, dI) kCl [(x, .inr (0, [.ref q1, .ref q3, .int 0, .int 0, .ref q5, .ref q7, .ref q15, .null, .int 0])), (q1, .inl (cA2, 16, .inl (fun _ => 0))), (q3, .inl (cA4, 24, .inr (.inr (.inr (.inr (fun _ => none)))))), (q5, .inl (cA6, 10, .inr (.inr (.inr (.inr (fun _ => none)))))), (q7, .inr (1, [.ref dv10, .ref do911, .int 0])), (dv10, .inl (cF12, 24, .inl (c_fl (fun _ => 0) (-1) 24))), (do911, .inl (cO13, 24, .inl (fun _ => 0))), (q15, .inr (2, [.ref cp18, .ref cn19, .int 0])), (cp18, .inl (cP20, 992, .inr (.inl (fun _ => 0)))), (cn19, .inl (cL21, 992, .inl (fun _ => 0))), (q23, .inr (3, [.int 400, .int 0, .int 0, .int 0, .int 0, .int 0]))] H := hP
  have hD : va_D A [(x, .inr (0, [.ref q1, .ref q3, .int 0, .int 0, .ref q5, .ref q7, .ref q15, .null, .int 0])), (q1, .inl (cA2, 16, .inl (fun _ => 0))), (q3, .inl (cA4, 24, .inr (.inr (.inr (.inr (fun _ => none)))))), (q5, .inl (cA6, 10, .inr (.inr (.inr (.inr (fun _ => none)))))), (q7, .inr (1, [.ref dv10, .ref do911, .int 0])), (dv10, .inl (cF12, 24, .inl (c_fl (fun _ => 0) (-1) 24))), (do911, .inl (cO13, 24, .inl (fun _ => 0))), (q15, .inr (2, [.ref cp18, .ref cn19, .int 0])), (cp18, .inl (cP20, 992, .inr (.inl (fun _ => 0)))), (cn19, .inl (cL21, 992, .inl (fun _ => 0))), (q23, .inr (3, [.int 400, .int 0, .int 0, .int 0, .int 0, .int 0]))] := hD
  refine W.widen (k := 10) (n := 2094) (Nat.le_of_ble_eq_true rfl) (Nat.le_of_ble_eq_true rfl) ?_
  refine va_putF (D := (dC, dI)) (cl := kCl) (ci := 0) (v := .ref q23) (ty := (.object "DrawingVault$Pages")) (C := RV) (T := TV) (N := 9) (pc := 60) hx hb hts inV tyV tyV_ok nmV hown hK hP hD hS 0 rfl rfl 7 (by decide) (hts _ wd_380) (fun _ h9 => h9) rfl hin rfl (by decide +kernel) rfl rfl (Nat.le_of_ble_eq_true rfl) dV_init_60 (fun H locs hP hD hS => ?_)
  have hP : va_P (dC, dI) kCl [(x, .inr (0, [.ref q1, .ref q3, .int 0, .int 0, .ref q5, .ref q7, .ref q15, .ref q23, .int 0])), (q1, .inl (cA2, 16, .inl (fun _ => 0))), (q3, .inl (cA4, 24, .inr (.inr (.inr (.inr (fun _ => none)))))), (q5, .inl (cA6, 10, .inr (.inr (.inr (.inr (fun _ => none)))))), (q7, .inr (1, [.ref dv10, .ref do911, .int 0])), (dv10, .inl (cF12, 24, .inl (c_fl (fun _ => 0) (-1) 24))), (do911, .inl (cO13, 24, .inl (fun _ => 0))), (q15, .inr (2, [.ref cp18, .ref cn19, .int 0])), (cp18, .inl (cP20, 992, .inr (.inl (fun _ => 0)))), (cn19, .inl (cL21, 992, .inl (fun _ => 0))), (q23, .inr (3, [.int 400, .int 0, .int 0, .int 0, .int 0, .int 0]))] H := hP
  have hD : va_D A [(x, .inr (0, [.ref q1, .ref q3, .int 0, .int 0, .ref q5, .ref q7, .ref q15, .ref q23, .int 0])), (q1, .inl (cA2, 16, .inl (fun _ => 0))), (q3, .inl (cA4, 24, .inr (.inr (.inr (.inr (fun _ => none)))))), (q5, .inl (cA6, 10, .inr (.inr (.inr (.inr (fun _ => none)))))), (q7, .inr (1, [.ref dv10, .ref do911, .int 0])), (dv10, .inl (cF12, 24, .inl (c_fl (fun _ => 0) (-1) 24))), (do911, .inl (cO13, 24, .inl (fun _ => 0))), (q15, .inr (2, [.ref cp18, .ref cn19, .int 0])), (cp18, .inl (cP20, 992, .inr (.inl (fun _ => 0)))), (cn19, .inl (cL21, 992, .inl (fun _ => 0))), (q23, .inr (3, [.int 400, .int 0, .int 0, .int 0, .int 0, .int 0]))] := hD
  have hP9 := hP.sub (ws' := [(x, .inr (0, [.ref q1, .ref q3, .int 0, .int 0, .ref q5, .ref q7, .ref q15, .ref q23, .int 0])), (q1, .inl (cA2, 16, .inl (fun _ => 0))), (q3, .inl (cA4, 24, .inr (.inr (.inr (.inr (fun _ => none)))))), (q5, .inl (cA6, 10, .inr (.inr (.inr (.inr (fun _ => none)))))), (q7, .inr (1, [.ref dv10, .ref do911, .int 0])), (dv10, .inl (cF12, 24, .inl (c_fl (fun _ => 0) (-1) 24))), (do911, .inl (cO13, 24, .inl (fun _ => 0))), (q15, .inr (2, [.ref cp18, .ref cn19, .int 0])), (cp18, .inl (cP20, 992, .inr (.inl (fun _ => 0)))), (cn19, .inl (cL21, 992, .inl (fun _ => 0))), (q23, .inr (3, [.int 400, .int 0, .int 0, .int 0, .int 0, .int 0]))]) [0, 1, 2, 3, 4, 5, 6, 7, 8, 9, 10] rfl
  have hD9 := hD.sub (ws' := [(x, .inr (0, [.ref q1, .ref q3, .int 0, .int 0, .ref q5, .ref q7, .ref q15, .ref q23, .int 0])), (q1, .inl (cA2, 16, .inl (fun _ => 0))), (q3, .inl (cA4, 24, .inr (.inr (.inr (.inr (fun _ => none)))))), (q5, .inl (cA6, 10, .inr (.inr (.inr (.inr (fun _ => none)))))), (q7, .inr (1, [.ref dv10, .ref do911, .int 0])), (dv10, .inl (cF12, 24, .inl (c_fl (fun _ => 0) (-1) 24))), (do911, .inl (cO13, 24, .inl (fun _ => 0))), (q15, .inr (2, [.ref cp18, .ref cn19, .int 0])), (cp18, .inl (cP20, 992, .inr (.inl (fun _ => 0)))), (cn19, .inl (cL21, 992, .inl (fun _ => 0))), (q23, .inr (3, [.int 400, .int 0, .int 0, .int 0, .int 0, .int 0]))]) [0, 1, 2, 3, 4, 5, 6, 7, 8, 9, 10] (by decide) rfl
  have hK9 := hK.sub (tys' := [(cA2, .int), (cA4, .object "DrawingVault$Drawing"), (cA6, .object "DrawingVault$Baseline"), (cF12, .int), (cO13, .int), (cP20, .long), (cL21, .byte)]) [0, 1, 2, 3, 4, 5, 6] rfl
  exact W.vret (pc := 63) hx hb hr (fun t ht hW => ⟨⟨(), rfl, trivial, q1, q3, q5, q7, dv10, do911, q15, cp18, cn19, q23, cA2, cA4, cA6, cF12, cO13, cP20, cL21, by rw [ht]; exact hP9, va_K.moved hW.alike hK9, hD9⟩, hS.F ht⟩) hS.2.2 dV_init_63
set_option maxHeartbeats 4000000 in
set_option maxRecDepth 100000 in
theorem gm_keep (l : Launch) (dC : Nat → ClassId) (dI : Nat → Nat → Nat) (sz : Nat) (mo : Nat) (nw : Nat) (kp : Nat) (mk : Nat) (co : Nat) (se : Nat) (th : Int32) (mr : Int32) (fd : Int32) (pl : Int32) (pt : Int32) (op : Int32) (cN : ClassId) (fw : Nat → Int32) (cK : ClassId) (fk : Nat → Int32) : Met l yM_keep (.code yM_keep cM_keep 2 none :: aw) ({ frames := 0, cells := 0, slots := 0, locals := 0 }) (pW (dC, dI) sz [(mo, .inr (4, [.int th, .int mr, .ref nw, .ref kp, .int fd, .int pl, .ref mk, .ref co, .int pt, .int op, .ref se])), (nw, .inl (cN, 25240, .inl fw)), (kp, .inl (cK, 25240, .inl fk))] [(cN, .int), (cK, .int)] [.ref mo]) (va_Qv (fun (u9 : Nat → Int32) => (∀ j, j < 25240 → u9 j = fw j)) (fun u9 t => wW (dC, dI) (va_A [(mo, .inr (4, [.int th, .int mr, .ref nw, .ref kp, .int fd, .int pl, .ref mk, .ref co, .int pt, .int op, .ref se])), (nw, .inl (cN, 25240, .inl fw)), (kp, .inl (cK, 25240, .inl fk))] sz) [(mo, .inr (4, [.int th, .int mr, .ref nw, .ref kp, .int fd, .int pl, .ref mk, .ref co, .int pt, .int op, .ref se])), (nw, .inl (cN, 25240, .inl fw)), (kp, .inl (cK, 25240, .inl u9))] [(cN, .int), (cK, .int)] t) (va_A [(mo, .inr (4, [.int th, .int mr, .ref nw, .ref kp, .int fd, .int pl, .ref mk, .ref co, .int pt, .int op, .ref se])), (nw, .inl (cN, 25240, .inl fw)), (kp, .inl (cK, 25240, .inl fk))] sz)) 0 0 (va_A [(mo, .inr (4, [.int th, .int mr, .ref nw, .ref kp, .int fd, .int pl, .ref mk, .ref co, .int pt, .int op, .ref se])), (nw, .inl (cN, 25240, .inl fw)), (kp, .inl (cK, 25240, .inl fk))] sz) := by
  refine Met.ofW (cc := cM_keep) (maxL := 2) (ret := none) (by decide) rfl ?_
  intro p e s m args below meth c s₁ B hml hv
  obtain ⟨rfl, hv⟩ := hv
  have hx := B.exec
  have hb := B.bytes
  have hr := B.returns
  have hts : ∀ w ∈ aw, w.before _ s = true := fun w h => atoms_spec (ws := (.code yM_keep cM_keep 2 none :: aw)) B.pre w (List.mem_cons_of_mem _ h)
  have hown : s.vm.findClass RM = some m.cls := findClass_of_methodNamed B.named
  have hlocks := B.notSynchronized
  obtain ⟨hsz, hP, hK, hD0, hG⟩ := hv
  subst hsz
  have hD := hD0.self (sz := s.heap.size)
  generalize hAe : va_A [(mo, .inr (4, [.int th, .int mr, .ref nw, .ref kp, .int fd, .int pl, .ref mk, .ref co, .int pt, .int op, .ref se])), (nw, .inl (cN, 25240, .inl fw)), (kp, .inl (cK, 25240, .inl fk))] s.heap.size = A at hD ⊢
  have hA : ∀ q : Nat, s.heap.size ≤ q → A q := fun q h => by rw [← hAe]; exact Or.inr h
  obtain ⟨H, hH⟩ : ∃ H, H = s.heap := ⟨_, rfl⟩
  have hS : va_S A s.heap H [] := by rw [hH]; exact va_S.rf
  rw [← hH] at hP ⊢
  have hP : va_P (dC, dI) kCl [(mo, .inr (4, [.int th, .int mr, .ref nw, .ref kp, .int fd, .int pl, .ref mk, .ref co, .int pt, .int op, .ref se])), (nw, .inl (cN, 25240, .inl fw)), (kp, .inl (cK, 25240, .inl fk))] H := hP
  have hl := lv_entry ([.ref mo]) (n := 2) (Nat.le_of_ble_eq_true rfl)
  rw [lg_entry_eq]
  generalize (lg_sl ([.ref mo]) ++ List.replicate (2 - (lg_sl ([.ref mo])).length) Slot.unset).toArray = ls at hl ⊢
  have hl : lv_has ls 2 [(0, .ref mo)] := hl
  refine lv_iconst (pc := 0) (v := 0) hx hb dM_keep_0 (by decide) ?_
  refine lv_istore_n (pc := 1) hx hb dM_keep_1 rfl hl (by decide) rfl (fun ls hl => ?_)
  have hl : lv_has ls 2 [(1, .int 0), (0, .ref mo)] := hl
  refine lpM (σ := (Nat) × (Nat → Int32) × (Heap) × (List Loc) × (Array Slot)) (fun z => W p l e _ s m _ below meth c z.2.2.1 z.2.2.2.1 0 0 _ (F0 m 2 z.2.2.2.2 [])) (fun z => va_P (dC, dI) kCl [(mo, .inr (4, [.int th, .int mr, .ref nw, .ref kp, .int fd, .int pl, .ref mk, .ref co, .int pt, .int op, .ref se])), (nw, .inl (cN, 25240, .inl fw)), (kp, .inl (cK, 25240, .inl z.2.1))] z.2.2.1 ∧ va_D A [(mo, .inr (4, [.int th, .int mr, .ref nw, .ref kp, .int fd, .int pl, .ref mk, .ref co, .int pt, .int op, .ref se])), (nw, .inl (cN, 25240, .inl fw)), (kp, .inl (cK, 25240, .inl z.2.1))] ∧ va_S A s.heap z.2.2.1 z.2.2.2.1 ∧ lv_has z.2.2.2.2 2 [(1, .int (nI z.1)), (0, .ref mo)] ∧ (z.1 ≤ 25240) ∧ (∀ j, j < z.1 → z.2.1 j = fw j)) (fun z => 25240 - z.1) ?_ (0, fk, H, _, ls) ⟨hP, hD, hS, hl, Nat.zero_le _, lt_0⟩
  rintro ⟨i, g1, H, locs, ls⟩ ⟨hP, hD, hS, hl, hi, hI⟩ ih
  try dsimp only at hP hD hS hl hi hI ih ⊢
  have hP : va_P (dC, dI) kCl [(mo, .inr (4, [.int th, .int mr, .ref nw, .ref kp, .int fd, .int pl, .ref mk, .ref co, .int pt, .int op, .ref se])), (nw, .inl (cN, 25240, .inl fw)), (kp, .inl (cK, 25240, .inl g1))] H := hP
  have hD : va_D A [(mo, .inr (4, [.int th, .int mr, .ref nw, .ref kp, .int fd, .int pl, .ref mk, .ref co, .int pt, .int op, .ref se])), (nw, .inl (cN, 25240, .inl fw)), (kp, .inl (cK, 25240, .inl g1))] := hD
  have hl : lv_has ls 2 [(1, .int (nI i)), (0, .ref mo)] := hl
  have hi : i ≤ 25240 := hi
  have hI : ∀ j, j < i → g1 j = fw j := hI
  refine lv_iload_n (pc := 2) hx hb dM_keep_2 rfl (lv_at hl 0 rfl) ?_
  refine lv_sipush (pc := 3) (v := 25240) hx hb dM_keep_3 (by decide) ?_
  refine lv_icmp_ge (pc := 6) (tgt := 27) hx hb dM_keep_6 rfl (fun h1 => ?_) (fun h1 => ?_)
  · have hP9 := hP.sub (ws' := [(mo, .inr (4, [.int th, .int mr, .ref nw, .ref kp, .int fd, .int pl, .ref mk, .ref co, .int pt, .int op, .ref se])), (nw, .inl (cN, 25240, .inl fw)), (kp, .inl (cK, 25240, .inl g1))]) [0, 1, 2] rfl
    have hD9 := hD.sub (ws' := [(mo, .inr (4, [.int th, .int mr, .ref nw, .ref kp, .int fd, .int pl, .ref mk, .ref co, .int pt, .int op, .ref se])), (nw, .inl (cN, 25240, .inl fw)), (kp, .inl (cK, 25240, .inl g1))]) [0, 1, 2] (by decide) rfl
    have hK9 := hK.sub (tys' := [(cN, .int), (cK, .int)]) [0, 1] rfl
    exact W.vret (pc := 27) hx hb hr (fun t ht hW => ⟨⟨g1, rfl, fun j hj => hI j (Nat.lt_of_lt_of_le hj (nle_of (b := 25240) h1 (by omega) (by omega))), by rw [ht]; exact hP9, va_K.moved hW.alike hK9, hD9⟩, hS.F ht⟩) hS.2.2 dM_keep_27
  · refine lv_aload_n (pc := 9) hx hb dM_keep_9 rfl (lv_at hl 1 rfl) ?_
    refine va_get (D := (dC, dI)) (cl := kCl) (C := RM) (T := TM) (N := 11) (pc := 10) hx hb hts inM hown hK hP 0 rfl rfl 3 (by decide) (hts _ wd_127) (fun _ h9 => h9) rfl dM_keep_10 ?_
    refine lv_iload_n (pc := 13) hx hb dM_keep_13 rfl (lv_at hl 0 rfl) ?_
    refine lv_aload_n (pc := 14) hx hb dM_keep_14 rfl (lv_at hl 1 rfl) ?_
    refine va_get (D := (dC, dI)) (cl := kCl) (C := RM) (T := TM) (N := 11) (pc := 15) hx hb hts inM hown hK hP 0 rfl rfl 2 (by decide) (hts _ wd_51) (fun _ h9 => h9) rfl dM_keep_15 ?_
    refine lv_iload_n (pc := 18) hx hb dM_keep_18 rfl (lv_at hl 0 rfl) ?_
    refine va_iald (D := (dC, dI)) (cl := kCl) (pc := 19) hx hb hK hP 1 0 rfl rfl (vp_in_nI (nlt_of (b := 25240) h1 (by omega)) (by decide)) dM_keep_19 ?_
    refine W.eq (g2 := F0 m 20 ls [.int (fw ((nI i) : Int32).toNatClampNeg), .int (nI i), .ref kp]) rfl ?_
    refine lv_topi (fun z2 hz3 => ?_)
    obtain rfl : z2 = fw i := hz3.trans (by rw [nI_clamp (by omega)])
    refine va_iast (D := (dC, dI)) (cl := kCl) (pc := 20) hx hb hK hP hD hS 2 1 rfl rfl (vp_in_nI (nlt_of (b := 25240) h1 (by omega)) (by decide)) dM_keep_20 (fun H locs hP hD hS => ?_)
    have hP : va_P (dC, dI) kCl [(mo, .inr (4, [.int th, .int mr, .ref nw, .ref kp, .int fd, .int pl, .ref mk, .ref co, .int pt, .int op, .ref se])), (nw, .inl (cN, 25240, .inl fw)), (kp, .inl (cK, 25240, .inl (upd g1 ((nI i) : Int32).toNatClampNeg (fw i))))] H := hP
    have hD : va_D A [(mo, .inr (4, [.int th, .int mr, .ref nw, .ref kp, .int fd, .int pl, .ref mk, .ref co, .int pt, .int op, .ref se])), (nw, .inl (cN, 25240, .inl fw)), (kp, .inl (cK, 25240, .inl (upd g1 ((nI i) : Int32).toNatClampNeg (fw i))))] := hD
    refine lv_iinc (pc := 21) (v := (nI (i + 1))) hx hb dM_keep_21 hl (k := 0) rfl (nI_1 _) (by decide) rfl (fun ls hl => ?_)
    have hl : lv_has ls 2 [(1, .int (nI (i + 1))), (0, .ref mo)] := hl
    refine lv_goto (pc := 24) (tgt := 2) hx hb dM_keep_24 rfl ?_
    have hl := lv_sub hl (l' := [(1, .int (nI (i + 1))), (0, .ref mo)]) [0, 1] rfl
    exact ih (i + 1, _, H, _, ls) ⟨hP, hD, hS, hl, (nlt_of (b := 25240) h1 (by omega)), m_keep_s (by omega) hI⟩ (by have := nlt_of (b := 25240) h1 (by omega); omega)
set_option maxHeartbeats 4000000 in
set_option maxRecDepth 100000 in
theorem gmo_init (l : Launch) (dC : Nat → ClassId) (dI : Nat → Nat → Nat) (sz : Nat) (mo : Nat) : Met l yM_init (.code yM_init cM_init 1 none :: aw) ({ frames := 1, cells := 5, slots := 50816, locals := 21 }) (pW (dC, dI) sz [(mo, .inr (4, [.int 0, .int 0, .null, .null, .int 0, .int 0, .null, .null, .int 0, .int 0, .null]))] [] [.ref mo]) (va_Qv (fun (_ : Unit) => True) (fun _ t => ∃ (nw : Nat) (kp : Nat) (mk : Nat) (co : Nat) (se : Nat) (cN : ClassId) (cK : ClassId) (cM : ClassId) (cC : ClassId) (cS : ClassId) (fk : Nat → Int32), (∀ j, j < 25240 → fk j = (upd (fun _ => 0) (17 : Int32).toNatClampNeg 400) j) ∧ wW (dC, dI) (va_A [(mo, .inr (4, [.int 0, .int 0, .null, .null, .int 0, .int 0, .null, .null, .int 0, .int 0, .null]))] sz) [(mo, .inr (4, [.int 0, .int 0, .ref nw, .ref kp, .int 0, .int (-1), .ref mk, .ref co, .int 0, .int 0, .ref se])), (nw, .inl (cN, 25240, .inl (upd (fun _ => 0) (17 : Int32).toNatClampNeg 400))), (kp, .inl (cK, 25240, .inl fk)), (mk, .inl (cM, 24, .inl (fun _ => 0))), (co, .inl (cC, 24, .inl (fun _ => 0))), (se, .inl (cS, 288, .inl (fun _ => 0)))] [(cN, .int), (cK, .int), (cM, .boolean), (cC, .int), (cS, .boolean)] t) (va_A [(mo, .inr (4, [.int 0, .int 0, .null, .null, .int 0, .int 0, .null, .null, .int 0, .int 0, .null]))] sz)) 5 50816 (va_A [(mo, .inr (4, [.int 0, .int 0, .null, .null, .int 0, .int 0, .null, .null, .int 0, .int 0, .null]))] sz) := by
  refine Met.ofW (cc := cM_init) (maxL := 1) (ret := none) (by decide) rfl ?_
  intro p e s m args below meth c s₁ B hml hv
  obtain ⟨rfl, hv⟩ := hv
  have hx := B.exec
  have hb := B.bytes
  have hr := B.returns
  have hts : ∀ w ∈ aw, w.before _ s = true := fun w h => atoms_spec (ws := (.code yM_init cM_init 1 none :: aw)) B.pre w (List.mem_cons_of_mem _ h)
  have hown : s.vm.findClass RM = some m.cls := findClass_of_methodNamed B.named
  have hlocks := B.notSynchronized
  have hin : meth.name = "<init>" := (name_of_methodNamed B.named B.method).1
  obtain ⟨hsz, hP, hK, hD0, hG⟩ := hv
  subst hsz
  have hD := hD0.self (sz := s.heap.size)
  generalize hAe : va_A [(mo, .inr (4, [.int 0, .int 0, .null, .null, .int 0, .int 0, .null, .null, .int 0, .int 0, .null]))] s.heap.size = A at hD ⊢
  have hA : ∀ q : Nat, s.heap.size ≤ q → A q := fun q h => by rw [← hAe]; exact Or.inr h
  obtain ⟨H, hH⟩ : ∃ H, H = s.heap := ⟨_, rfl⟩
  have hS : va_S A s.heap H [] := by rw [hH]; exact va_S.rf
  rw [← hH] at hP ⊢
  have hP : va_P (dC, dI) kCl [(mo, .inr (4, [.int 0, .int 0, .null, .null, .int 0, .int 0, .null, .null, .int 0, .int 0, .null]))] H := hP
  have hl := lv_entry ([.ref mo]) (n := 1) (Nat.le_of_ble_eq_true rfl)
  rw [lg_entry_eq]
  generalize (lg_sl ([.ref mo]) ++ List.replicate (1 - (lg_sl ([.ref mo])).length) Slot.unset).toArray = ls at hl ⊢
  have hl : lv_has ls 1 [(0, .ref mo)] := hl
  refine lv_aload_n (pc := 0) hx hb dM_init_0 rfl (lv_at hl 0 rfl) ?_
  refine W.objInit hx hb hown (hts _ wd_674) (hts _ wd_590) (hts _ wd_591) rfl (by rw [hml]; exact hl.1) rfl dM_init_1 (Nat.le_of_ble_eq_true rfl) (Nat.le_of_ble_eq_true rfl) ?_
  refine W.eq (g2 := F0 m 4 ls []) rfl ?_
  refine lv_aload_n (pc := 4) hx hb dM_init_4 rfl (lv_at hl 0 rfl) ?_
  refine lv_sipush (pc := 5) (v := 25240) hx hb dM_init_5 (by decide) ?_
  refine va_newa (atype := .int) (D := (dC, dI)) (cl := kCl) (pc := 8) (ty := .int) (n := 25240) (N' := 25240) (a0 := (25240, .inl (fun _ => 0))) hx hb (hts _ wd_642) rfl hK hP hD hS hA (fun cA => rfl) (by decide) (by decide) (by decide) (Nat.le_of_ble_eq_true rfl) (Nat.le_of_ble_eq_true rfl) dM_init_8 (fun q1 cA2 H hK hP hD hS => ?_)
  have hP : va_P (dC, dI) kCl [(mo, .inr (4, [.int 0, .int 0, .null, .null, .int 0, .int 0, .null, .null, .int 0, .int 0, .null])), (q1, .inl (cA2, 25240, .inl (fun _ => 0)))] H := hP
  have hD : va_D A [(mo, .inr (4, [.int 0, .int 0, .null, .null, .int 0, .int 0, .null, .null, .int 0, .int 0, .null])), (q1, .inl (cA2, 25240, .inl (fun _ => 0)))] := hD
  have hK : va_K (dC, dI) kCl [(cA2, .int)] s := hK
  refine W.widen (k := 1) (n := 25240) (Nat.le_of_ble_eq_true rfl) (Nat.le_of_ble_eq_true rfl) ?_
  refine va_putF (D := (dC, dI)) (cl := kCl) (ci := 4) (v := .ref q1) (ty := (.array .int)) (C := RM) (T := TM) (N := 11) (pc := 10) hx hb hts inM tyM tyM_ok nmM hown hK hP hD hS 0 rfl rfl 2 (by decide) (hts _ wd_51) (fun _ h9 => h9) rfl hin rfl (by decide +kernel) rfl rfl (Nat.le_of_ble_eq_true rfl) dM_init_10 (fun H locs hP hD hS => ?_)
  have hP : va_P (dC, dI) kCl [(mo, .inr (4, [.int 0, .int 0, .ref q1, .null, .int 0, .int 0, .null, .null, .int 0, .int 0, .null])), (q1, .inl (cA2, 25240, .inl (fun _ => 0)))] H := hP
  have hD : va_D A [(mo, .inr (4, [.int 0, .int 0, .ref q1, .null, .int 0, .int 0, .null, .null, .int 0, .int 0, .null])), (q1, .inl (cA2, 25240, .inl (fun _ => 0)))] := hD
  refine lv_aload_n (pc := 13) hx hb dM_init_13 rfl (lv_at hl 0 rfl) ?_
  refine lv_sipush (pc := 14) (v := 25240) hx hb dM_init_14 (by decide) ?_
  refine va_newa (atype := .int) (D := (dC, dI)) (cl := kCl) (pc := 17) (ty := .int) (n := 25240) (N' := 25240) (a0 := (25240, .inl (fun _ => 0))) hx hb (hts _ wd_642) rfl hK hP hD hS hA (fun cA => rfl) (by decide) (by decide) (by decide) (Nat.le_of_ble_eq_true rfl) (Nat.le_of_ble_eq_true rfl) dM_init_17 (fun q3 cA4 H hK hP hD hS => ?_)
  have hP : va_P (dC, dI) kCl [(mo, .inr (4, [.int 0, .int 0, .ref q1, .null, .int 0, .int 0, .null, .null, .int 0, .int 0, .null])), (q1, .inl (cA2, 25240, .inl (fun _ => 0))), (q3, .inl (cA4, 25240, .inl (fun _ => 0)))] H := hP
  have hD : va_D A [(mo, .inr (4, [.int 0, .int 0, .ref q1, .null, .int 0, .int 0, .null, .null, .int 0, .int 0, .null])), (q1, .inl (cA2, 25240, .inl (fun _ => 0))), (q3, .inl (cA4, 25240, .inl (fun _ => 0)))] := hD
  have hK : va_K (dC, dI) kCl [(cA2, .int), (cA4, .int)] s := hK
  refine W.widen (k := 2) (n := 50480) (Nat.le_of_ble_eq_true rfl) (Nat.le_of_ble_eq_true rfl) ?_
  refine va_putF (D := (dC, dI)) (cl := kCl) (ci := 4) (v := .ref q3) (ty := (.array .int)) (C := RM) (T := TM) (N := 11) (pc := 19) hx hb hts inM tyM tyM_ok nmM hown hK hP hD hS 0 rfl rfl 3 (by decide) (hts _ wd_127) (fun _ h9 => h9) rfl hin rfl (by decide +kernel) rfl rfl (Nat.le_of_ble_eq_true rfl) dM_init_19 (fun H locs hP hD hS => ?_)
  have hP : va_P (dC, dI) kCl [(mo, .inr (4, [.int 0, .int 0, .ref q1, .ref q3, .int 0, .int 0, .null, .null, .int 0, .int 0, .null])), (q1, .inl (cA2, 25240, .inl (fun _ => 0))), (q3, .inl (cA4, 25240, .inl (fun _ => 0)))] H := hP
  have hD : va_D A [(mo, .inr (4, [.int 0, .int 0, .ref q1, .ref q3, .int 0, .int 0, .null, .null, .int 0, .int 0, .null])), (q1, .inl (cA2, 25240, .inl (fun _ => 0))), (q3, .inl (cA4, 25240, .inl (fun _ => 0)))] := hD
  refine lv_aload_n (pc := 22) hx hb dM_init_22 rfl (lv_at hl 0 rfl) ?_
  refine lv_iconst (pc := 23) (v := (-1)) hx hb dM_init_23 (by decide) ?_
  refine va_put (D := (dC, dI)) (cl := kCl) (ci := 4) (v := .int (-1)) (ty := .int) (C := RM) (T := TM) (N := 11) (pc := 24) hx hb hts inM tyM tyM_ok nmM hown hK hP hD hS 0 rfl rfl 5 (by decide) (hts _ wd_130) (fun _ h9 => h9) rfl (by decide +kernel) rfl rfl (Nat.le_of_ble_eq_true rfl) dM_init_24 (fun H locs hP hD hS => ?_)
  have hP : va_P (dC, dI) kCl [(mo, .inr (4, [.int 0, .int 0, .ref q1, .ref q3, .int 0, .int (-1), .null, .null, .int 0, .int 0, .null])), (q1, .inl (cA2, 25240, .inl (fun _ => 0))), (q3, .inl (cA4, 25240, .inl (fun _ => 0)))] H := hP
  have hD : va_D A [(mo, .inr (4, [.int 0, .int 0, .ref q1, .ref q3, .int 0, .int (-1), .null, .null, .int 0, .int 0, .null])), (q1, .inl (cA2, 25240, .inl (fun _ => 0))), (q3, .inl (cA4, 25240, .inl (fun _ => 0)))] := hD
  refine lv_aload_n (pc := 27) hx hb dM_init_27 rfl (lv_at hl 0 rfl) ?_
  refine lv_bipush (pc := 28) (v := 24) hx hb dM_init_28 (by decide) ?_
  refine va_newa (atype := .boolean) (D := (dC, dI)) (cl := kCl) (pc := 30) (ty := .boolean) (n := 24) (N' := 24) (a0 := (24, .inl (fun _ => 0))) hx hb (hts _ wd_675) rfl hK hP hD hS hA (fun cA => rfl) (by decide) (by decide) (by decide) (Nat.le_of_ble_eq_true rfl) (Nat.le_of_ble_eq_true rfl) dM_init_30 (fun q5 cA6 H hK hP hD hS => ?_)
  have hP : va_P (dC, dI) kCl [(mo, .inr (4, [.int 0, .int 0, .ref q1, .ref q3, .int 0, .int (-1), .null, .null, .int 0, .int 0, .null])), (q1, .inl (cA2, 25240, .inl (fun _ => 0))), (q3, .inl (cA4, 25240, .inl (fun _ => 0))), (q5, .inl (cA6, 24, .inl (fun _ => 0)))] H := hP
  have hD : va_D A [(mo, .inr (4, [.int 0, .int 0, .ref q1, .ref q3, .int 0, .int (-1), .null, .null, .int 0, .int 0, .null])), (q1, .inl (cA2, 25240, .inl (fun _ => 0))), (q3, .inl (cA4, 25240, .inl (fun _ => 0))), (q5, .inl (cA6, 24, .inl (fun _ => 0)))] := hD
  have hK : va_K (dC, dI) kCl [(cA2, .int), (cA4, .int), (cA6, .boolean)] s := hK
  refine W.widen (k := 3) (n := 50504) (Nat.le_of_ble_eq_true rfl) (Nat.le_of_ble_eq_true rfl) ?_
  refine va_putF (D := (dC, dI)) (cl := kCl) (ci := 4) (v := .ref q5) (ty := (.array .boolean)) (C := RM) (T := TM) (N := 11) (pc := 32) hx hb hts inM tyM tyM_ok nmM hown hK hP hD hS 0 rfl rfl 6 (by decide) (hts _ wd_174) (fun _ h9 => h9) rfl hin rfl (by decide +kernel) rfl rfl (Nat.le_of_ble_eq_true rfl) dM_init_32 (fun H locs hP hD hS => ?_)
  have hP : va_P (dC, dI) kCl [(mo, .inr (4, [.int 0, .int 0, .ref q1, .ref q3, .int 0, .int (-1), .ref q5, .null, .int 0, .int 0, .null])), (q1, .inl (cA2, 25240, .inl (fun _ => 0))), (q3, .inl (cA4, 25240, .inl (fun _ => 0))), (q5, .inl (cA6, 24, .inl (fun _ => 0)))] H := hP
  have hD : va_D A [(mo, .inr (4, [.int 0, .int 0, .ref q1, .ref q3, .int 0, .int (-1), .ref q5, .null, .int 0, .int 0, .null])), (q1, .inl (cA2, 25240, .inl (fun _ => 0))), (q3, .inl (cA4, 25240, .inl (fun _ => 0))), (q5, .inl (cA6, 24, .inl (fun _ => 0)))] := hD
  refine lv_aload_n (pc := 35) hx hb dM_init_35 rfl (lv_at hl 0 rfl) ?_
  refine lv_bipush (pc := 36) (v := 24) hx hb dM_init_36 (by decide) ?_
  refine va_newa (atype := .int) (D := (dC, dI)) (cl := kCl) (pc := 38) (ty := .int) (n := 24) (N' := 24) (a0 := (24, .inl (fun _ => 0))) hx hb (hts _ wd_642) rfl hK hP hD hS hA (fun cA => rfl) (by decide) (by decide) (by decide) (Nat.le_of_ble_eq_true rfl) (Nat.le_of_ble_eq_true rfl) dM_init_38 (fun q7 cA8 H hK hP hD hS => ?_)
  have hP : va_P (dC, dI) kCl [(mo, .inr (4, [.int 0, .int 0, .ref q1, .ref q3, .int 0, .int (-1), .ref q5, .null, .int 0, .int 0, .null])), (q1, .inl (cA2, 25240, .inl (fun _ => 0))), (q3, .inl (cA4, 25240, .inl (fun _ => 0))), (q5, .inl (cA6, 24, .inl (fun _ => 0))), (q7, .inl (cA8, 24, .inl (fun _ => 0)))] H := hP
  have hD : va_D A [(mo, .inr (4, [.int 0, .int 0, .ref q1, .ref q3, .int 0, .int (-1), .ref q5, .null, .int 0, .int 0, .null])), (q1, .inl (cA2, 25240, .inl (fun _ => 0))), (q3, .inl (cA4, 25240, .inl (fun _ => 0))), (q5, .inl (cA6, 24, .inl (fun _ => 0))), (q7, .inl (cA8, 24, .inl (fun _ => 0)))] := hD
  have hK : va_K (dC, dI) kCl [(cA2, .int), (cA4, .int), (cA6, .boolean), (cA8, .int)] s := hK
  refine W.widen (k := 4) (n := 50528) (Nat.le_of_ble_eq_true rfl) (Nat.le_of_ble_eq_true rfl) ?_
  refine va_putF (D := (dC, dI)) (cl := kCl) (ci := 4) (v := .ref q7) (ty := (.array .int)) (C := RM) (T := TM) (N := 11) (pc := 40) hx hb hts inM tyM tyM_ok nmM hown hK hP hD hS 0 rfl rfl 7 (by decide) (hts _ wd_213) (fun _ h9 => h9) rfl hin rfl (by decide +kernel) rfl rfl (Nat.le_of_ble_eq_true rfl) dM_init_40 (fun H locs hP hD hS => ?_)
  have hP : va_P (dC, dI) kCl [(mo, .inr (4, [.int 0, .int 0, .ref q1, .ref q3, .int 0, .int (-1), .ref q5, .ref q7, .int 0, .int 0, .null])), (q1, .inl (cA2, 25240, .inl (fun _ => 0))), (q3, .inl (cA4, 25240, .inl (fun _ => 0))), (q5, .inl (cA6, 24, .inl (fun _ => 0))), (q7, .inl (cA8, 24, .inl (fun _ => 0)))] H := hP
  have hD : va_D A [(mo, .inr (4, [.int 0, .int 0, .ref q1, .ref q3, .int 0, .int (-1), .ref q5, .ref q7, .int 0, .int 0, .null])), (q1, .inl (cA2, 25240, .inl (fun _ => 0))), (q3, .inl (cA4, 25240, .inl (fun _ => 0))), (q5, .inl (cA6, 24, .inl (fun _ => 0))), (q7, .inl (cA8, 24, .inl (fun _ => 0)))] := hD
  refine lv_aload_n (pc := 43) hx hb dM_init_43 rfl (lv_at hl 0 rfl) ?_
  refine lv_sipush (pc := 44) (v := 288) hx hb dM_init_44 (by decide) ?_
  refine va_newa (atype := .boolean) (D := (dC, dI)) (cl := kCl) (pc := 47) (ty := .boolean) (n := 288) (N' := 288) (a0 := (288, .inl (fun _ => 0))) hx hb (hts _ wd_675) rfl hK hP hD hS hA (fun cA => rfl) (by decide) (by decide) (by decide) (Nat.le_of_ble_eq_true rfl) (Nat.le_of_ble_eq_true rfl) dM_init_47 (fun q9 cA10 H hK hP hD hS => ?_)
  have hP : va_P (dC, dI) kCl [(mo, .inr (4, [.int 0, .int 0, .ref q1, .ref q3, .int 0, .int (-1), .ref q5, .ref q7, .int 0, .int 0, .null])), (q1, .inl (cA2, 25240, .inl (fun _ => 0))), (q3, .inl (cA4, 25240, .inl (fun _ => 0))), (q5, .inl (cA6, 24, .inl (fun _ => 0))), (q7, .inl (cA8, 24, .inl (fun _ => 0))), (q9, .inl (cA10, 288, .inl (fun _ => 0)))] H := hP
  have hD : va_D A [(mo, .inr (4, [.int 0, .int 0, .ref q1, .ref q3, .int 0, .int (-1), .ref q5, .ref q7, .int 0, .int 0, .null])), (q1, .inl (cA2, 25240, .inl (fun _ => 0))), (q3, .inl (cA4, 25240, .inl (fun _ => 0))), (q5, .inl (cA6, 24, .inl (fun _ => 0))), (q7, .inl (cA8, 24, .inl (fun _ => 0))), (q9, .inl (cA10, 288, .inl (fun _ => 0)))] := hD
  have hK : va_K (dC, dI) kCl [(cA2, .int), (cA4, .int), (cA6, .boolean), (cA8, .int), (cA10, .boolean)] s := hK
  refine W.widen (k := 5) (n := 50816) (Nat.le_of_ble_eq_true rfl) (Nat.le_of_ble_eq_true rfl) ?_
  refine va_putF (D := (dC, dI)) (cl := kCl) (ci := 4) (v := .ref q9) (ty := (.array .boolean)) (C := RM) (T := TM) (N := 11) (pc := 49) hx hb hts inM tyM tyM_ok nmM hown hK hP hD hS 0 rfl rfl 10 (by decide) (hts _ wd_212) (fun _ h9 => h9) rfl hin rfl (by decide +kernel) rfl rfl (Nat.le_of_ble_eq_true rfl) dM_init_49 (fun H locs hP hD hS => ?_)
  have hP : va_P (dC, dI) kCl [(mo, .inr (4, [.int 0, .int 0, .ref q1, .ref q3, .int 0, .int (-1), .ref q5, .ref q7, .int 0, .int 0, .ref q9])), (q1, .inl (cA2, 25240, .inl (fun _ => 0))), (q3, .inl (cA4, 25240, .inl (fun _ => 0))), (q5, .inl (cA6, 24, .inl (fun _ => 0))), (q7, .inl (cA8, 24, .inl (fun _ => 0))), (q9, .inl (cA10, 288, .inl (fun _ => 0)))] H := hP
  have hD : va_D A [(mo, .inr (4, [.int 0, .int 0, .ref q1, .ref q3, .int 0, .int (-1), .ref q5, .ref q7, .int 0, .int 0, .ref q9])), (q1, .inl (cA2, 25240, .inl (fun _ => 0))), (q3, .inl (cA4, 25240, .inl (fun _ => 0))), (q5, .inl (cA6, 24, .inl (fun _ => 0))), (q7, .inl (cA8, 24, .inl (fun _ => 0))), (q9, .inl (cA10, 288, .inl (fun _ => 0)))] := hD
  refine lv_aload_n (pc := 52) hx hb dM_init_52 rfl (lv_at hl 0 rfl) ?_
  refine va_get (D := (dC, dI)) (cl := kCl) (C := RM) (T := TM) (N := 11) (pc := 53) hx hb hts inM hown hK hP 0 rfl rfl 2 (by decide) (hts _ wd_51) (fun _ h9 => h9) rfl dM_init_53 ?_
  refine lv_bipush (pc := 56) (v := 17) hx hb dM_init_56 (by decide) ?_
  refine lv_sipush (pc := 58) (v := 400) hx hb dM_init_58 (by decide) ?_
  refine va_iast (D := (dC, dI)) (cl := kCl) (pc := 61) hx hb hK hP hD hS 1 0 rfl rfl (vp_in_lit 17 25240 (by decide)) dM_init_61 (fun H locs hP hD hS => ?_)
  have hP : va_P (dC, dI) kCl [(mo, .inr (4, [.int 0, .int 0, .ref q1, .ref q3, .int 0, .int (-1), .ref q5, .ref q7, .int 0, .int 0, .ref q9])), (q1, .inl (cA2, 25240, .inl (upd (fun _ => 0) (17 : Int32).toNatClampNeg 400))), (q3, .inl (cA4, 25240, .inl (fun _ => 0))), (q5, .inl (cA6, 24, .inl (fun _ => 0))), (q7, .inl (cA8, 24, .inl (fun _ => 0))), (q9, .inl (cA10, 288, .inl (fun _ => 0)))] H := hP
  have hD : va_D A [(mo, .inr (4, [.int 0, .int 0, .ref q1, .ref q3, .int 0, .int (-1), .ref q5, .ref q7, .int 0, .int 0, .ref q9])), (q1, .inl (cA2, 25240, .inl (upd (fun _ => 0) (17 : Int32).toNatClampNeg 400))), (q3, .inl (cA4, 25240, .inl (fun _ => 0))), (q5, .inl (cA6, 24, .inl (fun _ => 0))), (q7, .inl (cA8, 24, .inl (fun _ => 0))), (q9, .inl (cA10, 288, .inl (fun _ => 0)))] := hD
  refine lv_aload_n (pc := 62) hx hb dM_init_62 rfl (lv_at hl 0 rfl) ?_
  have hPc := hP.sub (ws' := [(mo, .inr (4, [.int 0, .int 0, .ref q1, .ref q3, .int 0, .int (-1), .ref q5, .ref q7, .int 0, .int 0, .ref q9])), (q1, .inl (cA2, 25240, .inl (upd (fun _ => 0) (17 : Int32).toNatClampNeg 400))), (q3, .inl (cA4, 25240, .inl (fun _ => 0)))]) [0, 1, 2] rfl
  have hDc := hD.sub (ws' := [(mo, .inr (4, [.int 0, .int 0, .ref q1, .ref q3, .int 0, .int (-1), .ref q5, .ref q7, .int 0, .int 0, .ref q9])), (q1, .inl (cA2, 25240, .inl (upd (fun _ => 0) (17 : Int32).toNatClampNeg 400))), (q3, .inl (cA4, 25240, .inl (fun _ => 0)))]) [0, 1, 2] (by decide) rfl
  have hKc := hK.sub (tys' := [(cA2, .int), (cA4, .int)]) [0, 1] rfl
  have hFc := va_free (wc := [(mo, .inr (4, [.int 0, .int 0, .ref q1, .ref q3, .int 0, .int (-1), .ref q5, .ref q7, .int 0, .int 0, .ref q9])), (q1, .inl (cA2, 25240, .inl (upd (fun _ => 0) (17 : Int32).toNatClampNeg 400))), (q3, .inl (cA4, 25240, .inl (fun _ => 0)))]) hD hS hA [0, 1, 2] rfl
  refine va_callv (pc := 63) (va_runV (As := []) (rest := []) ⟨hx, hb, hml, hown, hts⟩ (gm_keep l dC dI H.size mo q1 q3 q5 q7 q9 0 0 0 (-1) 0 0 cA2 (upd (fun _ => 0) (17 : Int32).toNatClampNeg 400) cA4 (fun _ => 0)) (cwV 0 hts (gV wd_136 wd_137 wd_138 wd_50 wd_135) rfl rfl rfl (by decide +kernel) ⟨Nat.le_of_ble_eq_true rfl, Nat.le_of_ble_eq_true rfl⟩) ⟨pW_blind, va_recv (q := (RM, TM, 11)) (q0 := 0) (ci := 4) hK hP rfl rfl, pW_pre hPc hKc hDc hG⟩ rfl rfl hl.1 rfl (lv_room (Nat.le_of_ble_eq_true rfl)) dM_init_63 ⟨Nat.le_of_ble_eq_true rfl, Nat.le_of_ble_eq_true rfl⟩) hS (fun q _ h => hFc q h) hFc (fun u13 t H1 locs ht hvm hr12 hB hz1 hk1 hS => ?_)
  obtain ⟨hP1, hK1, hD1⟩ := hB
  rw [ht] at hP1
  have hK1 := va_K.moved hvm.symm hK1
  obtain ⟨hP, hD⟩ := va_join (wr := [(q5, .inl (cA6, 24, .inl (fun _ => 0))), (q7, .inl (cA8, 24, .inl (fun _ => 0))), (q9, .inl (cA10, 288, .inl (fun _ => 0)))]) (w1 := [(mo, .inr (4, [.int 0, .int 0, .ref q1, .ref q3, .int 0, .int (-1), .ref q5, .ref q7, .int 0, .int 0, .ref q9])), (q1, .inl (cA2, 25240, .inl (upd (fun _ => 0) (17 : Int32).toNatClampNeg 400))), (q3, .inl (cA4, 25240, .inl u13))]) hP hD [0, 1, 2] [3, 4, 5] rfl rfl (by decide) (by decide) hk1 hFc hP1 hD1
  generalize H1 = H at hP hS ⊢
  have hP : va_P (dC, dI) kCl [(q5, .inl (cA6, 24, .inl (fun _ => 0))), (q7, .inl (cA8, 24, .inl (fun _ => 0))), (q9, .inl (cA10, 288, .inl (fun _ => 0))), (mo, .inr (4, [.int 0, .int 0, .ref q1, .ref q3, .int 0, .int (-1), .ref q5, .ref q7, .int 0, .int 0, .ref q9])), (q1, .inl (cA2, 25240, .inl (upd (fun _ => 0) (17 : Int32).toNatClampNeg 400))), (q3, .inl (cA4, 25240, .inl u13))] H := hP
  have hD : va_D A [(q5, .inl (cA6, 24, .inl (fun _ => 0))), (q7, .inl (cA8, 24, .inl (fun _ => 0))), (q9, .inl (cA10, 288, .inl (fun _ => 0))), (mo, .inr (4, [.int 0, .int 0, .ref q1, .ref q3, .int 0, .int (-1), .ref q5, .ref q7, .int 0, .int 0, .ref q9])), (q1, .inl (cA2, 25240, .inl (upd (fun _ => 0) (17 : Int32).toNatClampNeg 400))), (q3, .inl (cA4, 25240, .inl u13))] := hD
  refine W.widen (k := 5) (n := 50816) (Nat.le_of_ble_eq_true rfl) (Nat.le_of_ble_eq_true rfl) ?_
  have h15 : ∀ j, j < 25240 → u13 j = (upd (fun _ => 0) (17 : Int32).toNatClampNeg 400) j := hr12
  have hP9 := hP.sub (ws' := [(mo, .inr (4, [.int 0, .int 0, .ref q1, .ref q3, .int 0, .int (-1), .ref q5, .ref q7, .int 0, .int 0, .ref q9])), (q1, .inl (cA2, 25240, .inl (upd (fun _ => 0) (17 : Int32).toNatClampNeg 400))), (q3, .inl (cA4, 25240, .inl u13)), (q5, .inl (cA6, 24, .inl (fun _ => 0))), (q7, .inl (cA8, 24, .inl (fun _ => 0))), (q9, .inl (cA10, 288, .inl (fun _ => 0)))]) [3, 4, 5, 0, 1, 2] rfl
  have hD9 := hD.sub (ws' := [(mo, .inr (4, [.int 0, .int 0, .ref q1, .ref q3, .int 0, .int (-1), .ref q5, .ref q7, .int 0, .int 0, .ref q9])), (q1, .inl (cA2, 25240, .inl (upd (fun _ => 0) (17 : Int32).toNatClampNeg 400))), (q3, .inl (cA4, 25240, .inl u13)), (q5, .inl (cA6, 24, .inl (fun _ => 0))), (q7, .inl (cA8, 24, .inl (fun _ => 0))), (q9, .inl (cA10, 288, .inl (fun _ => 0)))]) [3, 4, 5, 0, 1, 2] (by decide) rfl
  have hK9 := hK.sub (tys' := [(cA2, .int), (cA4, .int), (cA6, .boolean), (cA8, .int), (cA10, .boolean)]) [0, 1, 2, 3, 4] rfl
  exact W.vret (pc := 66) hx hb hr (fun t ht hW => ⟨⟨(), rfl, trivial, q1, q3, q5, q7, q9, cA2, cA4, cA6, cA8, cA10, u13, h15, by rw [ht]; exact hP9, va_K.moved hW.alike hK9, hD9⟩, hS.F ht⟩) hS.2.2 dM_init_66
