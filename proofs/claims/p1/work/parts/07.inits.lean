abbrev cA_fillI : ByteArray := prog_17_method_103_code
abbrev yA_fillI : MethodName := ⟨"java/util/Arrays", "fill", "([II)V"⟩
theorem dA_fillI_0 : decode cA_fillI 0 = .ok (.iconst 0, 1) := by decide +kernel
theorem dA_fillI_1 : decode cA_fillI 1 = .ok (.istore_n 2, 1) := by decide +kernel
theorem dA_fillI_2 : decode cA_fillI 2 = .ok (.aload_n 0, 1) := by decide +kernel
theorem dA_fillI_3 : decode cA_fillI 3 = .ok (.arraylength, 1) := by decide +kernel
theorem dA_fillI_4 : decode cA_fillI 4 = .ok (.istore_n 3, 1) := by decide +kernel
theorem dA_fillI_5 : decode cA_fillI 5 = .ok (.iload_n 2, 1) := by decide +kernel
theorem dA_fillI_6 : decode cA_fillI 6 = .ok (.iload_n 3, 1) := by decide +kernel
theorem dA_fillI_7 : decode cA_fillI 7 = .ok (.if_icmp .ge 13, 3) := by decide +kernel
theorem dA_fillI_10 : decode cA_fillI 10 = .ok (.aload_n 0, 1) := by decide +kernel
theorem dA_fillI_11 : decode cA_fillI 11 = .ok (.iload_n 2, 1) := by decide +kernel
theorem dA_fillI_12 : decode cA_fillI 12 = .ok (.iload_n 1, 1) := by decide +kernel
theorem dA_fillI_13 : decode cA_fillI 13 = .ok (.iastore, 1) := by decide +kernel
theorem dA_fillI_14 : decode cA_fillI 14 = .ok (.iinc 2 1, 3) := by decide +kernel
theorem dA_fillI_17 : decode cA_fillI 17 = .ok (.goto (-12), 3) := by decide +kernel
theorem dA_fillI_20 : decode cA_fillI 20 = .ok (.return_, 1) := by decide +kernel
abbrev cB_init : ByteArray := prog_2_method_1_code
abbrev yB_init : MethodName := ⟨"DrawingVault$Baseline", "<init>", "()V"⟩
theorem dB_init_0 : decode cB_init 0 = .ok (.aload_n 0, 1) := by decide +kernel
theorem dB_init_1 : decode cB_init 1 = .ok (.invokespecial 3, 3) := by decide +kernel
theorem dB_init_4 : decode cB_init 4 = .ok (.aload_n 0, 1) := by decide +kernel
theorem dB_init_5 : decode cB_init 5 = .ok (.bipush 24, 2) := by decide +kernel
theorem dB_init_7 : decode cB_init 7 = .ok (.newarray .int, 2) := by decide +kernel
theorem dB_init_9 : decode cB_init 9 = .ok (.putfield 9, 3) := by decide +kernel
theorem dB_init_12 : decode cB_init 12 = .ok (.aload_n 0, 1) := by decide +kernel
theorem dB_init_13 : decode cB_init 13 = .ok (.bipush 24, 2) := by decide +kernel
theorem dB_init_15 : decode cB_init 15 = .ok (.newarray .int, 2) := by decide +kernel
theorem dB_init_17 : decode cB_init 17 = .ok (.putfield 15, 3) := by decide +kernel
theorem dB_init_20 : decode cB_init 20 = .ok (.aload_n 0, 1) := by decide +kernel
theorem dB_init_21 : decode cB_init 21 = .ok (.getfield 9, 3) := by decide +kernel
theorem dB_init_24 : decode cB_init 24 = .ok (.iconst (-1), 1) := by decide +kernel
theorem dB_init_25 : decode cB_init 25 = .ok (.invokestatic 18, 3) := by decide +kernel
theorem dB_init_28 : decode cB_init 28 = .ok (.return_, 1) := by decide +kernel
abbrev cK_init : ByteArray := prog_3_method_1_code
abbrev yK_init : MethodName := ⟨"DrawingVault$ChunkSet", "<init>", "()V"⟩
theorem dK_init_0 : decode cK_init 0 = .ok (.aload_n 0, 1) := by decide +kernel
theorem dK_init_1 : decode cK_init 1 = .ok (.invokespecial 3, 3) := by decide +kernel
theorem dK_init_4 : decode cK_init 4 = .ok (.aload_n 0, 1) := by decide +kernel
theorem dK_init_5 : decode cK_init 5 = .ok (.sipush 992, 3) := by decide +kernel
theorem dK_init_8 : decode cK_init 8 = .ok (.newarray .long, 2) := by decide +kernel
theorem dK_init_10 : decode cK_init 10 = .ok (.putfield 9, 3) := by decide +kernel
theorem dK_init_13 : decode cK_init 13 = .ok (.aload_n 0, 1) := by decide +kernel
theorem dK_init_14 : decode cK_init 14 = .ok (.sipush 992, 3) := by decide +kernel
theorem dK_init_17 : decode cK_init 17 = .ok (.newarray .byte, 2) := by decide +kernel
theorem dK_init_19 : decode cK_init 19 = .ok (.putfield 15, 3) := by decide +kernel
theorem dK_init_22 : decode cK_init 22 = .ok (.return_, 1) := by decide +kernel
abbrev cP_init : ByteArray := prog_6_method_1_code
abbrev yP_init : MethodName := ⟨"DrawingVault$Pages", "<init>", "()V"⟩
theorem dP_init_0 : decode cP_init 0 = .ok (.aload_n 0, 1) := by decide +kernel
theorem dP_init_1 : decode cP_init 1 = .ok (.invokespecial 3, 3) := by decide +kernel
theorem dP_init_4 : decode cP_init 4 = .ok (.aload_n 0, 1) := by decide +kernel
theorem dP_init_5 : decode cP_init 5 = .ok (.sipush 400, 3) := by decide +kernel
theorem dP_init_8 : decode cP_init 8 = .ok (.putfield 9, 3) := by decide +kernel
theorem dP_init_11 : decode cP_init 11 = .ok (.return_, 1) := by decide +kernel
abbrev cV_init : ByteArray := prog_1_method_1_code
abbrev yV_init : MethodName := ⟨"DrawingVault", "<init>", "()V"⟩
theorem dV_init_0 : decode cV_init 0 = .ok (.aload_n 0, 1) := by decide +kernel
theorem dV_init_1 : decode cV_init 1 = .ok (.invokespecial 3, 3) := by decide +kernel
theorem dV_init_4 : decode cV_init 4 = .ok (.aload_n 0, 1) := by decide +kernel
theorem dV_init_5 : decode cV_init 5 = .ok (.bipush 16, 2) := by decide +kernel
theorem dV_init_7 : decode cV_init 7 = .ok (.newarray .int, 2) := by decide +kernel
theorem dV_init_9 : decode cV_init 9 = .ok (.putfield 9, 3) := by decide +kernel
theorem dV_init_12 : decode cV_init 12 = .ok (.aload_n 0, 1) := by decide +kernel
theorem dV_init_13 : decode cV_init 13 = .ok (.bipush 24, 2) := by decide +kernel
theorem dV_init_15 : decode cV_init 15 = .ok (.anewarray 13, 3) := by decide +kernel
theorem dV_init_18 : decode cV_init 18 = .ok (.putfield 15, 3) := by decide +kernel
theorem dV_init_21 : decode cV_init 21 = .ok (.aload_n 0, 1) := by decide +kernel
theorem dV_init_22 : decode cV_init 22 = .ok (.bipush 10, 2) := by decide +kernel
theorem dV_init_24 : decode cV_init 24 = .ok (.anewarray 19, 3) := by decide +kernel
theorem dV_init_27 : decode cV_init 27 = .ok (.putfield 21, 3) := by decide +kernel
theorem dV_init_30 : decode cV_init 30 = .ok (.aload_n 0, 1) := by decide +kernel
theorem dV_init_31 : decode cV_init 31 = .ok (.new 19, 3) := by decide +kernel
theorem dV_init_34 : decode cV_init 34 = .ok (.dup, 1) := by decide +kernel
theorem dV_init_35 : decode cV_init 35 = .ok (.invokespecial 25, 3) := by decide +kernel
theorem dV_init_38 : decode cV_init 38 = .ok (.putfield 26, 3) := by decide +kernel
theorem dV_init_41 : decode cV_init 41 = .ok (.aload_n 0, 1) := by decide +kernel
theorem dV_init_42 : decode cV_init 42 = .ok (.new 30, 3) := by decide +kernel
theorem dV_init_45 : decode cV_init 45 = .ok (.dup, 1) := by decide +kernel
theorem dV_init_46 : decode cV_init 46 = .ok (.invokespecial 32, 3) := by decide +kernel
theorem dV_init_49 : decode cV_init 49 = .ok (.putfield 33, 3) := by decide +kernel
theorem dV_init_52 : decode cV_init 52 = .ok (.aload_n 0, 1) := by decide +kernel
theorem dV_init_53 : decode cV_init 53 = .ok (.new 37, 3) := by decide +kernel
theorem dV_init_56 : decode cV_init 56 = .ok (.dup, 1) := by decide +kernel
theorem dV_init_57 : decode cV_init 57 = .ok (.invokespecial 39, 3) := by decide +kernel
theorem dV_init_60 : decode cV_init 60 = .ok (.putfield 40, 3) := by decide +kernel
theorem dV_init_63 : decode cV_init 63 = .ok (.return_, 1) := by decide +kernel
abbrev cM_init : ByteArray := prog_9_method_1_code
abbrev yM_init : MethodName := ⟨"DrawingVaultModel", "<init>", "()V"⟩
theorem dM_init_0 : decode cM_init 0 = .ok (.aload_n 0, 1) := by decide +kernel
theorem dM_init_1 : decode cM_init 1 = .ok (.invokespecial 1, 3) := by decide +kernel
theorem dM_init_4 : decode cM_init 4 = .ok (.aload_n 0, 1) := by decide +kernel
theorem dM_init_5 : decode cM_init 5 = .ok (.sipush 25240, 3) := by decide +kernel
theorem dM_init_8 : decode cM_init 8 = .ok (.newarray .int, 2) := by decide +kernel
theorem dM_init_10 : decode cM_init 10 = .ok (.putfield 7, 3) := by decide +kernel
theorem dM_init_13 : decode cM_init 13 = .ok (.aload_n 0, 1) := by decide +kernel
theorem dM_init_14 : decode cM_init 14 = .ok (.sipush 25240, 3) := by decide +kernel
theorem dM_init_17 : decode cM_init 17 = .ok (.newarray .int, 2) := by decide +kernel
theorem dM_init_19 : decode cM_init 19 = .ok (.putfield 13, 3) := by decide +kernel
theorem dM_init_22 : decode cM_init 22 = .ok (.aload_n 0, 1) := by decide +kernel
theorem dM_init_23 : decode cM_init 23 = .ok (.iconst (-1), 1) := by decide +kernel
theorem dM_init_24 : decode cM_init 24 = .ok (.putfield 16, 3) := by decide +kernel
theorem dM_init_27 : decode cM_init 27 = .ok (.aload_n 0, 1) := by decide +kernel
theorem dM_init_28 : decode cM_init 28 = .ok (.bipush 24, 2) := by decide +kernel
theorem dM_init_30 : decode cM_init 30 = .ok (.newarray .boolean, 2) := by decide +kernel
theorem dM_init_32 : decode cM_init 32 = .ok (.putfield 20, 3) := by decide +kernel
theorem dM_init_35 : decode cM_init 35 = .ok (.aload_n 0, 1) := by decide +kernel
theorem dM_init_36 : decode cM_init 36 = .ok (.bipush 24, 2) := by decide +kernel
theorem dM_init_38 : decode cM_init 38 = .ok (.newarray .int, 2) := by decide +kernel
theorem dM_init_40 : decode cM_init 40 = .ok (.putfield 24, 3) := by decide +kernel
theorem dM_init_43 : decode cM_init 43 = .ok (.aload_n 0, 1) := by decide +kernel
theorem dM_init_44 : decode cM_init 44 = .ok (.sipush 288, 3) := by decide +kernel
theorem dM_init_47 : decode cM_init 47 = .ok (.newarray .boolean, 2) := by decide +kernel
theorem dM_init_49 : decode cM_init 49 = .ok (.putfield 27, 3) := by decide +kernel
theorem dM_init_52 : decode cM_init 52 = .ok (.aload_n 0, 1) := by decide +kernel
theorem dM_init_53 : decode cM_init 53 = .ok (.getfield 7, 3) := by decide +kernel
theorem dM_init_56 : decode cM_init 56 = .ok (.bipush 17, 2) := by decide +kernel
theorem dM_init_58 : decode cM_init 58 = .ok (.sipush 400, 3) := by decide +kernel
theorem dM_init_61 : decode cM_init 61 = .ok (.iastore, 1) := by decide +kernel
theorem dM_init_62 : decode cM_init 62 = .ok (.aload_n 0, 1) := by decide +kernel
theorem dM_init_63 : decode cM_init 63 = .ok (.invokevirtual 30, 3) := by decide +kernel
theorem dM_init_66 : decode cM_init 66 = .ok (.return_, 1) := by decide +kernel
abbrev cB_clear : ByteArray := prog_2_method_2_code
abbrev yB_clear : MethodName := ⟨"DrawingVault$Baseline", "clear", "()V"⟩
theorem dB_clear_0 : decode cB_clear 0 = .ok (.aload_n 0, 1) := by decide +kernel
theorem dB_clear_1 : decode cB_clear 1 = .ok (.getfield 9, 3) := by decide +kernel
theorem dB_clear_4 : decode cB_clear 4 = .ok (.iconst (-1), 1) := by decide +kernel
theorem dB_clear_5 : decode cB_clear 5 = .ok (.invokestatic 18, 3) := by decide +kernel
theorem dB_clear_8 : decode cB_clear 8 = .ok (.aload_n 0, 1) := by decide +kernel
theorem dB_clear_9 : decode cB_clear 9 = .ok (.iconst 0, 1) := by decide +kernel
theorem dB_clear_10 : decode cB_clear 10 = .ok (.putfield 24, 3) := by decide +kernel
theorem dB_clear_13 : decode cB_clear 13 = .ok (.return_, 1) := by decide +kernel
abbrev cB_pagesTaken : ByteArray := prog_2_method_5_code
abbrev yB_pagesTaken : MethodName := ⟨"DrawingVault$Baseline", "pagesTaken", "()I"⟩
theorem dB_pagesTaken_0 : decode cB_pagesTaken 0 = .ok (.iconst 1, 1) := by decide +kernel
theorem dB_pagesTaken_1 : decode cB_pagesTaken 1 = .ok (.aload_n 0, 1) := by decide +kernel
theorem dB_pagesTaken_2 : decode cB_pagesTaken 2 = .ok (.getfield 24, 3) := by decide +kernel
theorem dB_pagesTaken_5 : decode cB_pagesTaken 5 = .ok (.bipush 8, 2) := by decide +kernel
theorem dB_pagesTaken_7 : decode cB_pagesTaken 7 = .ok (.iadd, 1) := by decide +kernel
theorem dB_pagesTaken_8 : decode cB_pagesTaken 8 = .ok (.iconst 1, 1) := by decide +kernel
theorem dB_pagesTaken_9 : decode cB_pagesTaken 9 = .ok (.isub, 1) := by decide +kernel
theorem dB_pagesTaken_10 : decode cB_pagesTaken 10 = .ok (.bipush 8, 2) := by decide +kernel
theorem dB_pagesTaken_12 : decode cB_pagesTaken 12 = .ok (.idiv, 1) := by decide +kernel
theorem dB_pagesTaken_13 : decode cB_pagesTaken 13 = .ok (.iadd, 1) := by decide +kernel
theorem dB_pagesTaken_14 : decode cB_pagesTaken 14 = .ok (.ireturn, 1) := by decide +kernel
abbrev cV_baselineRefusal : ByteArray := prog_1_method_38_code
abbrev yV_baselineRefusal : MethodName := ⟨"DrawingVault", "baselineRefusal", "(II)I"⟩
theorem dV_baselineRefusal_0 : decode cV_baselineRefusal 0 = .ok (.aload_n 0, 1) := by decide +kernel
theorem dV_baselineRefusal_1 : decode cV_baselineRefusal 1 = .ok (.iload_n 2, 1) := by decide +kernel
theorem dV_baselineRefusal_2 : decode cV_baselineRefusal 2 = .ok (.invokevirtual 74, 3) := by decide +kernel
theorem dV_baselineRefusal_5 : decode cV_baselineRefusal 5 = .ok (.astore_n 3, 1) := by decide +kernel
theorem dV_baselineRefusal_6 : decode cV_baselineRefusal 6 = .ok (.aload_n 0, 1) := by decide +kernel
theorem dV_baselineRefusal_7 : decode cV_baselineRefusal 7 = .ok (.getfield 26, 3) := by decide +kernel
theorem dV_baselineRefusal_10 : decode cV_baselineRefusal 10 = .ok (.invokevirtual 304, 3) := by decide +kernel
theorem dV_baselineRefusal_13 : decode cV_baselineRefusal 13 = .ok (.aload_n 0, 1) := by decide +kernel
theorem dV_baselineRefusal_14 : decode cV_baselineRefusal 14 = .ok (.iload_n 1, 1) := by decide +kernel
theorem dV_baselineRefusal_15 : decode cV_baselineRefusal 15 = .ok (.invokevirtual 209, 3) := by decide +kernel
theorem dV_baselineRefusal_18 : decode cV_baselineRefusal 18 = .ok (.ifnull 5, 3) := by decide +kernel
theorem dV_baselineRefusal_23 : decode cV_baselineRefusal 23 = .ok (.aload_n 3, 1) := by decide +kernel
theorem dV_baselineRefusal_24 : decode cV_baselineRefusal 24 = .ok (.ifnonnull 6, 3) := by decide +kernel
theorem dV_baselineRefusal_27 : decode cV_baselineRefusal 27 = .ok (.bipush 7, 2) := by decide +kernel
theorem dV_baselineRefusal_29 : decode cV_baselineRefusal 29 = .ok (.ireturn, 1) := by decide +kernel
abbrev cV_baseline : ByteArray := prog_1_method_14_code
abbrev yV_baseline : MethodName := ⟨"DrawingVault", "baseline", "(II)I"⟩
theorem dV_baseline_0 : decode cV_baseline 0 = .ok (.aload_n 0, 1) := by decide +kernel
theorem dV_baseline_1 : decode cV_baseline 1 = .ok (.invokevirtual 44, 3) := by decide +kernel
theorem dV_baseline_4 : decode cV_baseline 4 = .ok (.aload_n 0, 1) := by decide +kernel
theorem dV_baseline_5 : decode cV_baseline 5 = .ok (.iload_n 1, 1) := by decide +kernel
theorem dV_baseline_6 : decode cV_baseline 6 = .ok (.iload_n 2, 1) := by decide +kernel
theorem dV_baseline_7 : decode cV_baseline 7 = .ok (.invokevirtual 150, 3) := by decide +kernel
theorem dV_baseline_10 : decode cV_baseline 10 = .ok (.istore_n 3, 1) := by decide +kernel
theorem dV_baseline_11 : decode cV_baseline 11 = .ok (.aload_n 0, 1) := by decide +kernel
theorem dV_baseline_12 : decode cV_baseline 12 = .ok (.getfield 26, 3) := by decide +kernel
theorem dV_baseline_15 : decode cV_baseline 15 = .ok (.invokevirtual 154, 3) := by decide +kernel
theorem dV_baseline_18 : decode cV_baseline 18 = .ok (.istore 4, 2) := by decide +kernel
theorem dV_baseline_20 : decode cV_baseline 20 = .ok (.aload_n 0, 1) := by decide +kernel
theorem dV_baseline_21 : decode cV_baseline 21 = .ok (.iload_n 3, 1) := by decide +kernel
theorem dV_baseline_22 : decode cV_baseline 22 = .ok (.iload 4, 2) := by decide +kernel
theorem dV_baseline_24 : decode cV_baseline 24 = .ok (.invokevirtual 51, 3) := by decide +kernel
theorem dV_baseline_27 : decode cV_baseline 27 = .ok (.ifCond .ne 5, 3) := by decide +kernel
theorem dV_baseline_30 : decode cV_baseline 30 = .ok (.iconst (-1), 1) := by decide +kernel
theorem dV_baseline_31 : decode cV_baseline 31 = .ok (.ireturn, 1) := by decide +kernel
theorem wd_221 : (.methodLink "DrawingVault$Baseline" 3 ⟨"java/lang/Object", "<init>", "()V"⟩ : Cond) ∈ aw := aw_in (tb_1 (List.mem_of_getElem? (i := 33) rfl)) rfl
theorem wd_222 : (.instanceMethod ⟨"java/lang/Object", "<init>", "()V"⟩ : Cond) ∈ aw := aw_in (tb_1 (List.mem_of_getElem? (i := 23) rfl)) rfl
theorem wd_223 : (.code ⟨"java/lang/Object", "<init>", "()V"⟩ object_method_1_code 1 (Option.none : Option Jvm.ClassFile.FieldType) : Cond) ∈ aw := aw_in (tb_1 (List.mem_of_getElem? (i := 24) rfl)) rfl
theorem wd_224 : (.arrayClass .int : Cond) ∈ aw := aw_in (tb_1 (List.mem_of_getElem? (i := 50) rfl)) rfl
theorem wd_225 : (.fieldLink "DrawingVault$Baseline" 9 "DrawingVault$Baseline" "revisionOf" "[I" : Cond) ∈ aw := aw_in (tb_1 (List.mem_of_getElem? (i := 37) rfl)) rfl
theorem wd_226 : (.fieldLink "DrawingVault$Baseline" 15 "DrawingVault$Baseline" "order" "[I" : Cond) ∈ aw := aw_in (tb_1 (List.mem_of_getElem? (i := 39) rfl)) rfl
theorem wd_227 : (.code ⟨"java/util/Arrays", "fill", "([II)V"⟩ prog_17_method_103_code 4 (Option.none : Option Jvm.ClassFile.FieldType) : Cond) ∈ aw := aw_in (tb_1 (List.mem_of_getElem? (i := 36) rfl)) rfl
theorem wd_228 : (.methodLink "DrawingVault$Baseline" 18 ⟨"java/util/Arrays", "fill", "([II)V"⟩ : Cond) ∈ aw := aw_in (tb_1 (List.mem_of_getElem? (i := 34) rfl)) rfl
theorem wd_229 : (.static ⟨"java/util/Arrays", "fill", "([II)V"⟩ : Cond) ∈ aw := aw_in (tb_1 (List.mem_of_getElem? (i := 35) rfl)) rfl
theorem wd_230 : (.initialized "java/util/Arrays" : Cond) ∈ aw := aw_in (tb_1 (List.mem_of_getElem? (i := 3) rfl)) rfl
theorem wd_231 : (.methodLink "DrawingVault$ChunkSet" 3 ⟨"java/lang/Object", "<init>", "()V"⟩ : Cond) ∈ aw := aw_in (tb_1 (List.mem_of_getElem? (i := 56) rfl)) rfl
theorem wd_232 : (.arrayClass .long : Cond) ∈ aw := aw_in (tb_1 (List.mem_of_getElem? (i := 68) rfl)) rfl
theorem wd_233 : (.fieldLink "DrawingVault$ChunkSet" 9 "DrawingVault$ChunkSet" "pieces" "[J" : Cond) ∈ aw := aw_in (tb_1 (List.mem_of_getElem? (i := 57) rfl)) rfl
theorem wd_234 : (.arrayClass .byte : Cond) ∈ aw := aw_in (tb_1 (List.mem_of_getElem? (i := 69) rfl)) rfl
theorem wd_235 : (.fieldLink "DrawingVault$ChunkSet" 15 "DrawingVault$ChunkSet" "lengths" "[B" : Cond) ∈ aw := aw_in (tb_1 (List.mem_of_getElem? (i := 58) rfl)) rfl
theorem wd_236 : (.methodLink "DrawingVault$Pages" 3 ⟨"java/lang/Object", "<init>", "()V"⟩ : Cond) ∈ aw := aw_in (tb_1 (List.mem_of_getElem? (i := 75) rfl)) rfl
theorem wd_237 : (.methodLink "DrawingVault" 3 ⟨"java/lang/Object", "<init>", "()V"⟩ : Cond) ∈ aw := aw_in (tb_1 (List.mem_of_getElem? (i := 22) rfl)) rfl
theorem wd_238 : (.classLink "DrawingVault" 13 "DrawingVault$Drawing" : Cond) ∈ aw := aw_in (tb_1 (List.mem_of_getElem? (i := 25) rfl)) rfl
theorem wd_239 : (.fieldLink "DrawingVault" 15 "DrawingVault" "drawings" "[LDrawingVault$Drawing;" : Cond) ∈ aw := aw_in (tb_1 (List.mem_of_getElem? (i := 100) rfl)) rfl
theorem wd_240 : (.classLink "DrawingVault" 19 "DrawingVault$Baseline" : Cond) ∈ aw := aw_in (tb_1 (List.mem_of_getElem? (i := 27) rfl)) rfl
theorem wd_241 : (.instantiable "DrawingVault$Baseline" 3 : Cond) ∈ aw := aw_in (tb_1 (List.mem_of_getElem? (i := 29) rfl)) rfl
theorem wd_242 : (.initialized "DrawingVault$Baseline" : Cond) ∈ aw := aw_in (tb_1 (List.mem_of_getElem? (i := 2) rfl)) rfl
theorem wd_243 : (.code ⟨"DrawingVault$Baseline", "<init>", "()V"⟩ prog_2_method_1_code 1 (Option.none : Option Jvm.ClassFile.FieldType) : Cond) ∈ aw := aw_in (tb_1 (List.mem_of_getElem? (i := 32) rfl)) rfl
theorem wd_244 : (.methodLink "DrawingVault" 25 ⟨"DrawingVault$Baseline", "<init>", "()V"⟩ : Cond) ∈ aw := aw_in (tb_1 (List.mem_of_getElem? (i := 30) rfl)) rfl
theorem wd_245 : (.instanceMethod ⟨"DrawingVault$Baseline", "<init>", "()V"⟩ : Cond) ∈ aw := aw_in (tb_1 (List.mem_of_getElem? (i := 31) rfl)) rfl
theorem wd_246 : (.fieldLink "DrawingVault" 26 "DrawingVault" "draft" "LDrawingVault$Baseline;" : Cond) ∈ aw := aw_in (tb_1 (List.mem_of_getElem? (i := 104) rfl)) rfl
theorem wd_247 : (.classLink "DrawingVault" 30 "DrawingVault$ChunkSet" : Cond) ∈ aw := aw_in (tb_1 (List.mem_of_getElem? (i := 51) rfl)) rfl
theorem wd_248 : (.instantiable "DrawingVault$ChunkSet" 3 : Cond) ∈ aw := aw_in (tb_1 (List.mem_of_getElem? (i := 52) rfl)) rfl
theorem wd_249 : (.code ⟨"DrawingVault$ChunkSet", "<init>", "()V"⟩ prog_3_method_1_code 1 (Option.none : Option Jvm.ClassFile.FieldType) : Cond) ∈ aw := aw_in (tb_1 (List.mem_of_getElem? (i := 55) rfl)) rfl
theorem wd_250 : (.instanceMethod ⟨"DrawingVault$ChunkSet", "<init>", "()V"⟩ : Cond) ∈ aw := aw_in (tb_1 (List.mem_of_getElem? (i := 54) rfl)) rfl
theorem wd_251 : (.classLink "DrawingVault" 37 "DrawingVault$Pages" : Cond) ∈ aw := aw_in (tb_1 (List.mem_of_getElem? (i := 70) rfl)) rfl
theorem wd_252 : (.instantiable "DrawingVault$Pages" 6 : Cond) ∈ aw := aw_in (tb_1 (List.mem_of_getElem? (i := 71) rfl)) rfl
theorem wd_253 : (.code ⟨"DrawingVault$Pages", "<init>", "()V"⟩ prog_6_method_1_code 1 (Option.none : Option Jvm.ClassFile.FieldType) : Cond) ∈ aw := aw_in (tb_1 (List.mem_of_getElem? (i := 74) rfl)) rfl
theorem wd_254 : (.instanceMethod ⟨"DrawingVault$Pages", "<init>", "()V"⟩ : Cond) ∈ aw := aw_in (tb_1 (List.mem_of_getElem? (i := 73) rfl)) rfl
theorem wd_255 : (.methodLink "DrawingVaultModel" 1 ⟨"java/lang/Object", "<init>", "()V"⟩ : Cond) ∈ aw := aw_in (tb_4 (List.mem_of_getElem? (i := 25) rfl)) rfl
theorem wd_256 : (.arrayClass .boolean : Cond) ∈ aw := aw_in (tb_4 (List.mem_of_getElem? (i := 64) rfl)) rfl
theorem wd_257 : (.fieldLink "DrawingVaultModel" 20 "DrawingVaultModel" "marked" "[Z" : Cond) ∈ aw := aw_in (tb_4 (List.mem_of_getElem? (i := 36) rfl)) rfl
theorem wd_258 : (.fieldLink "DrawingVaultModel" 24 "DrawingVaultModel" "come" "[I" : Cond) ∈ aw := aw_in (tb_4 (List.mem_of_getElem? (i := 37) rfl)) rfl
theorem wd_259 : (.fieldLink "DrawingVaultModel" 27 "DrawingVaultModel" "seen" "[Z" : Cond) ∈ aw := aw_in (tb_4 (List.mem_of_getElem? (i := 40) rfl)) rfl
theorem wd_260 : (.fieldLink "DrawingVault$Baseline" 24 "DrawingVault$Baseline" "size" "I" : Cond) ∈ aw := aw_in (tb_1 (List.mem_of_getElem? (i := 41) rfl)) rfl
theorem wd_261 : (.code ⟨"DrawingVault$Baseline", "clear", "()V"⟩ prog_2_method_2_code 1 (Option.none : Option Jvm.ClassFile.FieldType) : Cond) ∈ aw := aw_in (tb_3 (List.mem_of_getElem? (i := 172) rfl)) rfl
theorem wd_262 : (.methodLink "DrawingVault" 304 ⟨"DrawingVault$Baseline", "clear", "()V"⟩ : Cond) ∈ aw := aw_in (tb_3 (List.mem_of_getElem? (i := 169) rfl)) rfl
theorem wd_263 : (.instanceMethod ⟨"DrawingVault$Baseline", "clear", "()V"⟩ : Cond) ∈ aw := aw_in (tb_3 (List.mem_of_getElem? (i := 170) rfl)) rfl
theorem wd_264 : (.selects "DrawingVault$Baseline" ⟨"DrawingVault$Baseline", "clear", "()V"⟩ ⟨"DrawingVault$Baseline", "clear", "()V"⟩ : Cond) ∈ aw := aw_in (tb_3 (List.mem_of_getElem? (i := 171) rfl)) rfl
theorem wd_265 : (.code ⟨"DrawingVault", "baselineAt", "(I)LDrawingVault$Baseline;"⟩ prog_1_method_46_code 2 (Option.some (.object "DrawingVault$Baseline")) : Cond) ∈ aw := aw_in (tb_3 (List.mem_of_getElem? (i := 176) rfl)) rfl
theorem wd_266 : (.methodLink "DrawingVault" 209 ⟨"DrawingVault", "baselineAt", "(I)LDrawingVault$Baseline;"⟩ : Cond) ∈ aw := aw_in (tb_3 (List.mem_of_getElem? (i := 173) rfl)) rfl
theorem wd_267 : (.instanceMethod ⟨"DrawingVault", "baselineAt", "(I)LDrawingVault$Baseline;"⟩ : Cond) ∈ aw := aw_in (tb_3 (List.mem_of_getElem? (i := 175) rfl)) rfl
theorem wd_268 : (.selects "DrawingVault" ⟨"DrawingVault", "baselineAt", "(I)LDrawingVault$Baseline;"⟩ ⟨"DrawingVault", "baselineAt", "(I)LDrawingVault$Baseline;"⟩ : Cond) ∈ aw := aw_in (tb_s (q := (⟨"DrawingVault", "baselineAt", "(I)LDrawingVault$Baseline;"⟩, _)) (List.mem_append_right _ (List.mem_append_right _ (List.mem_append_left _ (List.mem_of_getElem? (i := 0) rfl))))) rfl
theorem wd_269 : (.code ⟨"DrawingVault", "baselineRefusal", "(II)I"⟩ prog_1_method_38_code 5 (Option.some .int) : Cond) ∈ aw := aw_in (tb_3 (List.mem_of_getElem? (i := 168) rfl)) rfl
theorem wd_270 : (.methodLink "DrawingVault" 150 ⟨"DrawingVault", "baselineRefusal", "(II)I"⟩ : Cond) ∈ aw := aw_in (tb_3 (List.mem_of_getElem? (i := 165) rfl)) rfl
theorem wd_271 : (.instanceMethod ⟨"DrawingVault", "baselineRefusal", "(II)I"⟩ : Cond) ∈ aw := aw_in (tb_3 (List.mem_of_getElem? (i := 167) rfl)) rfl
theorem wd_272 : (.selects "DrawingVault" ⟨"DrawingVault", "baselineRefusal", "(II)I"⟩ ⟨"DrawingVault", "baselineRefusal", "(II)I"⟩ : Cond) ∈ aw := aw_in (tb_s (q := (⟨"DrawingVault", "baselineRefusal", "(II)I"⟩, _)) (List.mem_append_right _ (List.mem_append_left _ (List.mem_of_getElem? (i := 15) rfl)))) rfl
theorem wd_273 : (.code ⟨"DrawingVault$Baseline", "pagesTaken", "()I"⟩ prog_2_method_5_code 1 (Option.some .int) : Cond) ∈ aw := aw_in (tb_2 (List.mem_of_getElem? (i := 104) rfl)) rfl
theorem wd_274 : (.methodLink "DrawingVault" 154 ⟨"DrawingVault$Baseline", "pagesTaken", "()I"⟩ : Cond) ∈ aw := aw_in (tb_2 (List.mem_of_getElem? (i := 101) rfl)) rfl
theorem wd_275 : (.instanceMethod ⟨"DrawingVault$Baseline", "pagesTaken", "()I"⟩ : Cond) ∈ aw := aw_in (tb_2 (List.mem_of_getElem? (i := 102) rfl)) rfl
theorem wd_276 : (.selects "DrawingVault$Baseline" ⟨"DrawingVault$Baseline", "pagesTaken", "()I"⟩ ⟨"DrawingVault$Baseline", "pagesTaken", "()I"⟩ : Cond) ∈ aw := aw_in (tb_2 (List.mem_of_getElem? (i := 103) rfl)) rfl

def eV (U : State) : Prop := va_Nw (.methodLinkNest "DrawingVault" 32 ⟨"DrawingVault$ChunkSet", "<init>", "()V"⟩ "DrawingVault") U ∧ va_Nw (.methodLinkNest "DrawingVault" 39 ⟨"DrawingVault$Pages", "<init>", "()V"⟩ "DrawingVault") U ∧ va_AO "DrawingVault$Drawing" U ∧ va_AO "DrawingVault$Baseline" U
theorem eV_same {u U : State} (h : u.vm = U.vm) (hE : eV u) : eV U := ⟨va_Nw.same rfl h hE.1, va_Nw.same rfl h hE.2.1, va_AO.moved (by rw [h]; exact Vm.Alike.refl _) hE.2.2.1, va_AO.moved (by rw [h]; exact Vm.Alike.refl _) hE.2.2.2⟩
theorem eV_warm {s U : State} (hW : s.WarmedH U.vm) (hE : eV s) : eV U := ⟨va_Nw.warmM hW hE.1, va_Nw.warmM hW hE.2.1, va_AO.moved hW.alike hE.2.2.1, va_AO.moved hW.alike hE.2.2.2⟩
def pWx (D : va_G) (sz : Nat) (ws : va_W) (tys : List (ClassId × FieldType)) (av : List Value) (E : State → Prop) : Array Value → State → Prop := va_Pc av (fun U => U.heap.size = sz ∧ va_P D kCl ws U.heap ∧ va_K D kCl tys U ∧ va_D (fun _ => True) ws ∧ E U)
theorem pWx_blind {D : va_G} {sz : Nat} {ws : va_W} {tys : List (ClassId × FieldType)} {av : List Value} {E : State → Prop} (hE : ∀ u U : State, u.vm = U.vm → E u → E U) : FrameBlind (pWx D sz ws tys av E) := fun a U g mk h => ⟨h.1, h.2.1, h.2.2.1, va_K.moved (u := U) (U := U.calling g mk a) (Vm.Alike.refl U.vm) h.2.2.2.1, h.2.2.2.2.1, hE U _ rfl h.2.2.2.2.2⟩
theorem pWx_pre {D : va_G} {ws : va_W} {tys : List (ClassId × FieldType)} {av : List Value} {s : State} {H : Heap} {A : Nat → Prop} {E : State → Prop} (hP : va_P D kCl ws H) (hK : va_K D kCl tys s) (hD : va_D A ws) (hE : ∀ U : State, s.WarmedH U.vm → E U) : ∀ U : State, U.heap = H → s.WarmedH U.vm → pWx D H.size ws tys av E av.toArray U := fun U hU hW => ⟨rfl, by rw [hU], by rw [hU]; exact hP, va_K.moved hW.alike hK, hD.weaken (fun _ _ _ _ => trivial), hE U hW⟩

set_option maxHeartbeats 4000000 in
set_option maxRecDepth 100000 in
theorem a_fill (l : Launch) (dC : Nat → ClassId) (dI : Nat → Nat → Nat) (sz : Nat) (ar : Nat) (cF : ClassId) (fa : Nat → Int32) (va : Int32) : Met l yA_fillI (.code yA_fillI cA_fillI 4 none :: aw) ({ frames := 0, cells := 0, slots := 0, locals := 0 }) (pW (dC, dI) sz [(ar, .inl (cF, 24, .inl fa))] [(cF, .int)] [.ref ar, .int va]) (va_Qv (fun (u9 : Nat → Int32) => True) (fun u9 t => wW (dC, dI) (va_A [(ar, .inl (cF, 24, .inl fa))] sz) [(ar, .inl (cF, 24, .inl u9))] [(cF, .int)] t) (va_A [(ar, .inl (cF, 24, .inl fa))] sz)) 0 0 (va_A [(ar, .inl (cF, 24, .inl fa))] sz) := by
  refine Met.ofW (cc := cA_fillI) (maxL := 4) (ret := none) (by decide) rfl ?_
  intro p e s m args below meth c s₁ B hml hv
  obtain ⟨rfl, hv⟩ := hv
  have hx := B.exec
  have hb := B.bytes
  have hr := B.returns
  have hts : ∀ w ∈ aw, w.before _ s = true := fun w h => atoms_spec (ws := (.code yA_fillI cA_fillI 4 none :: aw)) B.pre w (List.mem_cons_of_mem _ h)
  have hown : s.vm.findClass RA = some m.cls := findClass_of_methodNamed B.named
  have hlocks := B.notSynchronized
  obtain ⟨hsz, hP, hK, hD0⟩ := hv
  subst hsz
  have hD := hD0.self (sz := s.heap.size)
  generalize hAe : va_A [(ar, .inl (cF, 24, .inl fa))] s.heap.size = A at hD ⊢
  have hA : ∀ q : Nat, s.heap.size ≤ q → A q := fun q h => by rw [← hAe]; exact Or.inr h
  obtain ⟨H, hH⟩ : ∃ H, H = s.heap := ⟨_, rfl⟩
  have hS : va_S A s.heap H [] := by rw [hH]; exact va_S.rf
  rw [← hH] at hP ⊢
  have hP : va_P (dC, dI) kCl [(ar, .inl (cF, 24, .inl fa))] H := hP
  have hl := lv_entry ([.ref ar, .int va]) (n := 4) (Nat.le_of_ble_eq_true rfl)
  rw [lg_entry_eq]
  generalize (lg_sl ([.ref ar, .int va]) ++ List.replicate (4 - (lg_sl ([.ref ar, .int va])).length) Slot.unset).toArray = ls at hl ⊢
  have hl : lv_has ls 4 [(0, .ref ar), (1, .int va)] := hl
  refine lv_iconst (pc := 0) (v := 0) hx hb dA_fillI_0 (by decide) ?_
  refine lv_istore_n (pc := 1) hx hb dA_fillI_1 rfl hl (by decide) rfl (fun ls hl => ?_)
  have hl : lv_has ls 4 [(2, .int 0), (0, .ref ar), (1, .int va)] := hl
  refine lv_aload_n (pc := 2) hx hb dA_fillI_2 rfl (lv_at hl 1 rfl) ?_
  refine va_alen (D := (dC, dI)) (cl := kCl) (pc := 3) (v := 24) hx hb hK hP 0 0 rfl rfl rfl dA_fillI_3 ?_
  refine lv_istore_n (pc := 4) hx hb dA_fillI_4 rfl hl (by decide) rfl (fun ls hl => ?_)
  have hl : lv_has ls 4 [(3, .int 24), (2, .int 0), (0, .ref ar), (1, .int va)] := hl
  refine lpN (σ := (Nat → Int32) × (Heap) × (List Loc) × (Array Slot)) (fun z => W p l e _ s m _ below meth c z.2.1 z.2.2.1 0 0 _ (F0 m 5 z.2.2.2 [])) (fun i z => va_P (dC, dI) kCl [(ar, .inl (cF, 24, .inl z.1))] z.2.1 ∧ va_D A [(ar, .inl (cF, 24, .inl z.1))] ∧ va_S A s.heap z.2.1 z.2.2.1 ∧ lv_has z.2.2.2 4 [(3, .int 24), (2, .int (nI i)), (0, .ref ar), (1, .int va)]) 24 ?_ ?_ 24 0 (fa, H, _, ls) rfl ⟨hP, hD, hS, hl⟩
  · rintro ⟨g1, H, locs, ls⟩ ⟨hP, hD, hS, hl⟩
    try dsimp only at hP hD hS hl ⊢
    have hP : va_P (dC, dI) kCl [(ar, .inl (cF, 24, .inl g1))] H := hP
    have hD : va_D A [(ar, .inl (cF, 24, .inl g1))] := hD
    have hl : lv_has ls 4 [(3, .int 24), (2, .int (nI 24)), (0, .ref ar), (1, .int va)] := hl
    refine lv_iload_n (pc := 5) hx hb dA_fillI_5 rfl (lv_at hl 1 rfl) ?_
    refine lv_iload_n (pc := 6) hx hb dA_fillI_6 rfl (lv_at hl 0 rfl) ?_
    refine lv_icmp_ge (pc := 7) (tgt := 20) hx hb dA_fillI_7 rfl (fun h1 => ?_) (fun h1 => absurd (show (24 : Int32) ≤ nI 24 by decide) h1)
    have hP9 := hP.sub (ws' := [(ar, .inl (cF, 24, .inl g1))]) [0] rfl
    have hD9 := hD.sub (ws' := [(ar, .inl (cF, 24, .inl g1))]) [0] (by decide) rfl
    have hK9 := hK.sub (tys' := [(cF, .int)]) [0] rfl
    exact W.vret (pc := 20) hx hb hr (fun t ht hW => ⟨⟨g1, rfl, trivial, by rw [ht]; exact hP9, va_K.moved hW.alike hK9, hD9⟩, hS.F ht⟩) hS.2.2 dA_fillI_20
  · rintro i ⟨g1, H, locs, ls⟩ hi ⟨hP, hD, hS, hl⟩ ih
    try dsimp only at hP hD hS hl ⊢
    have hP : va_P (dC, dI) kCl [(ar, .inl (cF, 24, .inl g1))] H := hP
    have hD : va_D A [(ar, .inl (cF, 24, .inl g1))] := hD
    have hl : lv_has ls 4 [(3, .int 24), (2, .int (nI i)), (0, .ref ar), (1, .int va)] := hl
    refine lv_iload_n (pc := 5) hx hb dA_fillI_5 rfl (lv_at hl 1 rfl) ?_
    refine lv_iload_n (pc := 6) hx hb dA_fillI_6 rfl (lv_at hl 0 rfl) ?_
    refine lv_icmp_ge (pc := 7) (tgt := 20) hx hb dA_fillI_7 rfl (fun h2 => absurd h2 (nI_ge (a := i) (b := 24) hi (by decide))) (fun h2 => ?_)
    refine lv_aload_n (pc := 10) hx hb dA_fillI_10 rfl (lv_at hl 2 rfl) ?_
    refine lv_iload_n (pc := 11) hx hb dA_fillI_11 rfl (lv_at hl 1 rfl) ?_
    refine lv_iload_n (pc := 12) hx hb dA_fillI_12 rfl (lv_at hl 3 rfl) ?_
    refine va_iast (D := (dC, dI)) (cl := kCl) (pc := 13) hx hb hK hP hD hS 0 0 rfl rfl (vp_in_nI (show i < 24 by omega) (by decide)) dA_fillI_13 (fun H locs hP hD hS => ?_)
    have hP : va_P (dC, dI) kCl [(ar, .inl (cF, 24, .inl (upd g1 ((nI i) : Int32).toNatClampNeg va)))] H := hP
    have hD : va_D A [(ar, .inl (cF, 24, .inl (upd g1 ((nI i) : Int32).toNatClampNeg va)))] := hD
    refine lv_iinc (pc := 14) (v := (nI (i + 1))) hx hb dA_fillI_14 hl (k := 1) rfl (nI_1 _) (by decide) rfl (fun ls hl => ?_)
    have hl : lv_has ls 4 [(2, .int (nI (i + 1))), (3, .int 24), (0, .ref ar), (1, .int va)] := hl
    refine lv_goto (pc := 17) (tgt := 5) hx hb dA_fillI_17 rfl ?_
    have hl := lv_sub hl (l' := [(3, .int 24), (2, .int (nI (i + 1))), (0, .ref ar), (1, .int va)]) [1, 0, 2, 3] rfl
    exact ih (_, H, _, ls) ⟨hP, hD, hS, hl⟩
set_option maxHeartbeats 4000000 in
set_option maxRecDepth 100000 in
theorem b_init (l : Launch) (dC : Nat → ClassId) (dI : Nat → Nat → Nat) (sz : Nat) (df : Nat) : Met l yB_init (.code yB_init cB_init 1 none :: aw) ({ frames := 1, cells := 2, slots := 48, locals := 23 }) (pW (dC, dI) sz [(df, .inr (1, [.null, .null, .int 0]))] [] [.ref df]) (va_Qv (fun (_ : Unit) => True) (fun _ t => ∃ (dv : Nat) (do9 : Nat) (cF : ClassId) (cO : ClassId) (fv : Nat → Int32), wW (dC, dI) (va_A [(df, .inr (1, [.null, .null, .int 0]))] sz) [(df, .inr (1, [.ref dv, .ref do9, .int 0])), (dv, .inl (cF, 24, .inl fv)), (do9, .inl (cO, 24, .inl (fun _ => 0)))] [(cF, .int), (cO, .int)] t) (va_A [(df, .inr (1, [.null, .null, .int 0]))] sz)) 2 48 (va_A [(df, .inr (1, [.null, .null, .int 0]))] sz) := by
  refine Met.ofW (cc := cB_init) (maxL := 1) (ret := none) (by decide) rfl ?_
  intro p e s m args below meth c s₁ B hml hv
  obtain ⟨rfl, hv⟩ := hv
  have hx := B.exec
  have hb := B.bytes
  have hr := B.returns
  have hts : ∀ w ∈ aw, w.before _ s = true := fun w h => atoms_spec (ws := (.code yB_init cB_init 1 none :: aw)) B.pre w (List.mem_cons_of_mem _ h)
  have hown : s.vm.findClass RB = some m.cls := findClass_of_methodNamed B.named
  have hlocks := B.notSynchronized
  have hin : meth.name = "<init>" := (name_of_methodNamed B.named B.method).1
  obtain ⟨hsz, hP, hK, hD0⟩ := hv
  subst hsz
  have hD := hD0.self (sz := s.heap.size)
  generalize hAe : va_A [(df, .inr (1, [.null, .null, .int 0]))] s.heap.size = A at hD ⊢
  have hA : ∀ q : Nat, s.heap.size ≤ q → A q := fun q h => by rw [← hAe]; exact Or.inr h
  obtain ⟨H, hH⟩ : ∃ H, H = s.heap := ⟨_, rfl⟩
  have hS : va_S A s.heap H [] := by rw [hH]; exact va_S.rf
  rw [← hH] at hP ⊢
  have hP : va_P (dC, dI) kCl [(df, .inr (1, [.null, .null, .int 0]))] H := hP
  have hl := lv_entry ([.ref df]) (n := 1) (Nat.le_of_ble_eq_true rfl)
  rw [lg_entry_eq]
  generalize (lg_sl ([.ref df]) ++ List.replicate (1 - (lg_sl ([.ref df])).length) Slot.unset).toArray = ls at hl ⊢
  have hl : lv_has ls 1 [(0, .ref df)] := hl
  refine lv_aload_n (pc := 0) hx hb dB_init_0 rfl (lv_at hl 0 rfl) ?_
  refine W.objInit hx hb hown (hts _ wd_221) (hts _ wd_222) (hts _ wd_223) rfl (by rw [hml]; exact hl.1) rfl dB_init_1 (Nat.le_of_ble_eq_true rfl) (Nat.le_of_ble_eq_true rfl) ?_
  refine W.eq (g2 := F0 m 4 ls []) rfl ?_
  refine lv_aload_n (pc := 4) hx hb dB_init_4 rfl (lv_at hl 0 rfl) ?_
  refine lv_bipush (pc := 5) (v := 24) hx hb dB_init_5 (by decide) ?_
  refine va_newa (atype := .int) (D := (dC, dI)) (cl := kCl) (pc := 7) (ty := .int) (n := 24) (N' := 24) (a0 := (24, .inl (fun _ => 0))) hx hb (hts _ wd_224) rfl hK hP hD hS hA (fun cA => rfl) (by decide) (by decide) (by decide) (Nat.le_of_ble_eq_true rfl) (Nat.le_of_ble_eq_true rfl) dB_init_7 (fun q1 cA2 H hK hP hD hS => ?_)
  have hP : va_P (dC, dI) kCl [(df, .inr (1, [.null, .null, .int 0])), (q1, .inl (cA2, 24, .inl (fun _ => 0)))] H := hP
  have hD : va_D A [(df, .inr (1, [.null, .null, .int 0])), (q1, .inl (cA2, 24, .inl (fun _ => 0)))] := hD
  have hK : va_K (dC, dI) kCl [(cA2, .int)] s := hK
  refine W.widen (k := 1) (n := 24) (Nat.le_of_ble_eq_true rfl) (Nat.le_of_ble_eq_true rfl) ?_
  refine va_putF (D := (dC, dI)) (cl := kCl) (ci := 1) (v := .ref q1) (ty := (.array .int)) (C := RB) (T := TB) (N := 3) (pc := 9) hx hb hts inB tyB tyB_ok nmB hown hK hP hD hS 0 rfl rfl 0 (by decide) (hts _ wd_225) (fun _ h9 => h9) rfl hin rfl (by decide +kernel) rfl rfl (Nat.le_of_ble_eq_true rfl) dB_init_9 (fun H locs hP hD hS => ?_)
  have hP : va_P (dC, dI) kCl [(df, .inr (1, [.ref q1, .null, .int 0])), (q1, .inl (cA2, 24, .inl (fun _ => 0)))] H := hP
  have hD : va_D A [(df, .inr (1, [.ref q1, .null, .int 0])), (q1, .inl (cA2, 24, .inl (fun _ => 0)))] := hD
  refine lv_aload_n (pc := 12) hx hb dB_init_12 rfl (lv_at hl 0 rfl) ?_
  refine lv_bipush (pc := 13) (v := 24) hx hb dB_init_13 (by decide) ?_
  refine va_newa (atype := .int) (D := (dC, dI)) (cl := kCl) (pc := 15) (ty := .int) (n := 24) (N' := 24) (a0 := (24, .inl (fun _ => 0))) hx hb (hts _ wd_224) rfl hK hP hD hS hA (fun cA => rfl) (by decide) (by decide) (by decide) (Nat.le_of_ble_eq_true rfl) (Nat.le_of_ble_eq_true rfl) dB_init_15 (fun q3 cA4 H hK hP hD hS => ?_)
  have hP : va_P (dC, dI) kCl [(df, .inr (1, [.ref q1, .null, .int 0])), (q1, .inl (cA2, 24, .inl (fun _ => 0))), (q3, .inl (cA4, 24, .inl (fun _ => 0)))] H := hP
  have hD : va_D A [(df, .inr (1, [.ref q1, .null, .int 0])), (q1, .inl (cA2, 24, .inl (fun _ => 0))), (q3, .inl (cA4, 24, .inl (fun _ => 0)))] := hD
  have hK : va_K (dC, dI) kCl [(cA2, .int), (cA4, .int)] s := hK
  refine W.widen (k := 2) (n := 48) (Nat.le_of_ble_eq_true rfl) (Nat.le_of_ble_eq_true rfl) ?_
  refine va_putF (D := (dC, dI)) (cl := kCl) (ci := 1) (v := .ref q3) (ty := (.array .int)) (C := RB) (T := TB) (N := 3) (pc := 17) hx hb hts inB tyB tyB_ok nmB hown hK hP hD hS 0 rfl rfl 1 (by decide) (hts _ wd_226) (fun _ h9 => h9) rfl hin rfl (by decide +kernel) rfl rfl (Nat.le_of_ble_eq_true rfl) dB_init_17 (fun H locs hP hD hS => ?_)
  have hP : va_P (dC, dI) kCl [(df, .inr (1, [.ref q1, .ref q3, .int 0])), (q1, .inl (cA2, 24, .inl (fun _ => 0))), (q3, .inl (cA4, 24, .inl (fun _ => 0)))] H := hP
  have hD : va_D A [(df, .inr (1, [.ref q1, .ref q3, .int 0])), (q1, .inl (cA2, 24, .inl (fun _ => 0))), (q3, .inl (cA4, 24, .inl (fun _ => 0)))] := hD
  refine lv_aload_n (pc := 20) hx hb dB_init_20 rfl (lv_at hl 0 rfl) ?_
  refine va_get (D := (dC, dI)) (cl := kCl) (C := RB) (T := TB) (N := 3) (pc := 21) hx hb hts inB hown hK hP 0 rfl rfl 0 (by decide) (hts _ wd_225) (fun _ h9 => h9) rfl dB_init_21 ?_
  refine lv_iconst (pc := 24) (v := (-1)) hx hb dB_init_24 (by decide) ?_
  have hPc := hP.sub (ws' := [(q1, .inl (cA2, 24, .inl (fun _ => 0)))]) [1] rfl
  have hDc := hD.sub (ws' := [(q1, .inl (cA2, 24, .inl (fun _ => 0)))]) [1] (by decide) rfl
  have hKc := hK.sub (tys' := [(cA2, .int)]) [0] rfl
  have hFc := va_free (wc := [(q1, .inl (cA2, 24, .inl (fun _ => 0)))]) hD hS hA [1] rfl
  refine va_callv (pc := 25) (va_runS (As := [.ref q1, .int (-1)]) (rest := []) ⟨hx, hb, hml, hown, hts⟩ (a_fill l dC dI H.size q1 cA2 (fun _ => 0) (-1)) (va_cwS 2 hts (gSU wd_228 wd_229 wd_230 wd_227) rfl rfl rfl (by decide +kernel) ⟨Nat.le_of_ble_eq_true rfl, Nat.le_of_ble_eq_true rfl⟩) ⟨pW_blind, pW_pre hPc hKc hDc⟩ rfl rfl hl.1 rfl (lv_room (Nat.le_of_ble_eq_true rfl)) dB_init_25 ⟨Nat.le_of_ble_eq_true rfl, Nat.le_of_ble_eq_true rfl⟩) hS (fun q _ h => hFc q h) hFc (fun u7 t H1 locs ht hvm hr6 hB hz1 hk1 hS => ?_)
  obtain ⟨hP1, hK1, hD1⟩ := hB
  rw [ht] at hP1
  have hK1 := va_K.moved hvm.symm hK1
  obtain ⟨hP, hD⟩ := va_join (wr := [(df, .inr (1, [.ref q1, .ref q3, .int 0])), (q3, .inl (cA4, 24, .inl (fun _ => 0)))]) (w1 := [(q1, .inl (cA2, 24, .inl u7))]) hP hD [1] [0, 2] rfl rfl (by decide) (by decide) hk1 hFc hP1 hD1
  generalize H1 = H at hP hS ⊢
  have hP : va_P (dC, dI) kCl [(df, .inr (1, [.ref q1, .ref q3, .int 0])), (q3, .inl (cA4, 24, .inl (fun _ => 0))), (q1, .inl (cA2, 24, .inl u7))] H := hP
  have hD : va_D A [(df, .inr (1, [.ref q1, .ref q3, .int 0])), (q3, .inl (cA4, 24, .inl (fun _ => 0))), (q1, .inl (cA2, 24, .inl u7))] := hD
  refine W.widen (k := 2) (n := 48) (Nat.le_of_ble_eq_true rfl) (Nat.le_of_ble_eq_true rfl) ?_
  have hP9 := hP.sub (ws' := [(df, .inr (1, [.ref q1, .ref q3, .int 0])), (q1, .inl (cA2, 24, .inl u7)), (q3, .inl (cA4, 24, .inl (fun _ => 0)))]) [0, 2, 1] rfl
  have hD9 := hD.sub (ws' := [(df, .inr (1, [.ref q1, .ref q3, .int 0])), (q1, .inl (cA2, 24, .inl u7)), (q3, .inl (cA4, 24, .inl (fun _ => 0)))]) [0, 2, 1] (by decide) rfl
  have hK9 := hK.sub (tys' := [(cA2, .int), (cA4, .int)]) [0, 1] rfl
  exact W.vret (pc := 28) hx hb hr (fun t ht hW => ⟨⟨(), rfl, trivial, q1, q3, cA2, cA4, u7, by rw [ht]; exact hP9, va_K.moved hW.alike hK9, hD9⟩, hS.F ht⟩) hS.2.2 dB_init_28
set_option maxHeartbeats 4000000 in
set_option maxRecDepth 100000 in
theorem k_init (l : Launch) (dC : Nat → ClassId) (dI : Nat → Nat → Nat) (sz : Nat) (ch : Nat) : Met l yK_init (.code yK_init cK_init 1 none :: aw) ({ frames := 1, cells := 2, slots := 1984, locals := 12 }) (pW (dC, dI) sz [(ch, .inr (2, [.null, .null, .int 0]))] [] [.ref ch]) (va_Qv (fun (_ : Unit) => True) (fun _ t => ∃ (cp : Nat) (cn : Nat) (cP : ClassId) (cL : ClassId), wW (dC, dI) (va_A [(ch, .inr (2, [.null, .null, .int 0]))] sz) [(ch, .inr (2, [.ref cp, .ref cn, .int 0])), (cp, .inl (cP, 992, .inr (.inl (fun _ => 0)))), (cn, .inl (cL, 992, .inl (fun _ => 0)))] [(cP, .long), (cL, .byte)] t) (va_A [(ch, .inr (2, [.null, .null, .int 0]))] sz)) 2 1984 (va_A [(ch, .inr (2, [.null, .null, .int 0]))] sz) := by
  refine Met.ofW (cc := cK_init) (maxL := 1) (ret := none) (by decide) rfl ?_
  intro p e s m args below meth c s₁ B hml hv
  obtain ⟨rfl, hv⟩ := hv
  have hx := B.exec
  have hb := B.bytes
  have hr := B.returns
  have hts : ∀ w ∈ aw, w.before _ s = true := fun w h => atoms_spec (ws := (.code yK_init cK_init 1 none :: aw)) B.pre w (List.mem_cons_of_mem _ h)
  have hown : s.vm.findClass RK = some m.cls := findClass_of_methodNamed B.named
  have hlocks := B.notSynchronized
  have hin : meth.name = "<init>" := (name_of_methodNamed B.named B.method).1
  obtain ⟨hsz, hP, hK, hD0⟩ := hv
  subst hsz
  have hD := hD0.self (sz := s.heap.size)
  generalize hAe : va_A [(ch, .inr (2, [.null, .null, .int 0]))] s.heap.size = A at hD ⊢
  have hA : ∀ q : Nat, s.heap.size ≤ q → A q := fun q h => by rw [← hAe]; exact Or.inr h
  obtain ⟨H, hH⟩ : ∃ H, H = s.heap := ⟨_, rfl⟩
  have hS : va_S A s.heap H [] := by rw [hH]; exact va_S.rf
  rw [← hH] at hP ⊢
  have hP : va_P (dC, dI) kCl [(ch, .inr (2, [.null, .null, .int 0]))] H := hP
  have hl := lv_entry ([.ref ch]) (n := 1) (Nat.le_of_ble_eq_true rfl)
  rw [lg_entry_eq]
  generalize (lg_sl ([.ref ch]) ++ List.replicate (1 - (lg_sl ([.ref ch])).length) Slot.unset).toArray = ls at hl ⊢
  have hl : lv_has ls 1 [(0, .ref ch)] := hl
  refine lv_aload_n (pc := 0) hx hb dK_init_0 rfl (lv_at hl 0 rfl) ?_
  refine W.objInit hx hb hown (hts _ wd_231) (hts _ wd_222) (hts _ wd_223) rfl (by rw [hml]; exact hl.1) rfl dK_init_1 (Nat.le_of_ble_eq_true rfl) (Nat.le_of_ble_eq_true rfl) ?_
  refine W.eq (g2 := F0 m 4 ls []) rfl ?_
  refine lv_aload_n (pc := 4) hx hb dK_init_4 rfl (lv_at hl 0 rfl) ?_
  refine lv_sipush (pc := 5) (v := 992) hx hb dK_init_5 (by decide) ?_
  refine va_newa (atype := .long) (D := (dC, dI)) (cl := kCl) (pc := 8) (ty := .long) (n := 992) (N' := 992) (a0 := (992, .inr (.inl (fun _ => 0)))) hx hb (hts _ wd_232) rfl hK hP hD hS hA (fun cA => rfl) (by decide) (by decide) (by decide) (Nat.le_of_ble_eq_true rfl) (Nat.le_of_ble_eq_true rfl) dK_init_8 (fun q1 cA2 H hK hP hD hS => ?_)
  have hP : va_P (dC, dI) kCl [(ch, .inr (2, [.null, .null, .int 0])), (q1, .inl (cA2, 992, .inr (.inl (fun _ => 0))))] H := hP
  have hD : va_D A [(ch, .inr (2, [.null, .null, .int 0])), (q1, .inl (cA2, 992, .inr (.inl (fun _ => 0))))] := hD
  have hK : va_K (dC, dI) kCl [(cA2, .long)] s := hK
  refine W.widen (k := 1) (n := 992) (Nat.le_of_ble_eq_true rfl) (Nat.le_of_ble_eq_true rfl) ?_
  refine va_putF (D := (dC, dI)) (cl := kCl) (ci := 2) (v := .ref q1) (ty := (.array .long)) (C := RK) (T := TK) (N := 3) (pc := 10) hx hb hts inK tyK tyK_ok nmK hown hK hP hD hS 0 rfl rfl 0 (by decide) (hts _ wd_233) (fun _ h9 => h9) rfl hin rfl (by decide +kernel) rfl rfl (Nat.le_of_ble_eq_true rfl) dK_init_10 (fun H locs hP hD hS => ?_)
  have hP : va_P (dC, dI) kCl [(ch, .inr (2, [.ref q1, .null, .int 0])), (q1, .inl (cA2, 992, .inr (.inl (fun _ => 0))))] H := hP
  have hD : va_D A [(ch, .inr (2, [.ref q1, .null, .int 0])), (q1, .inl (cA2, 992, .inr (.inl (fun _ => 0))))] := hD
  refine lv_aload_n (pc := 13) hx hb dK_init_13 rfl (lv_at hl 0 rfl) ?_
  refine lv_sipush (pc := 14) (v := 992) hx hb dK_init_14 (by decide) ?_
  refine va_newa (atype := .byte) (D := (dC, dI)) (cl := kCl) (pc := 17) (ty := .byte) (n := 992) (N' := 992) (a0 := (992, .inl (fun _ => 0))) hx hb (hts _ wd_234) rfl hK hP hD hS hA (fun cA => rfl) (by decide) (by decide) (by decide) (Nat.le_of_ble_eq_true rfl) (Nat.le_of_ble_eq_true rfl) dK_init_17 (fun q3 cA4 H hK hP hD hS => ?_)
  have hP : va_P (dC, dI) kCl [(ch, .inr (2, [.ref q1, .null, .int 0])), (q1, .inl (cA2, 992, .inr (.inl (fun _ => 0)))), (q3, .inl (cA4, 992, .inl (fun _ => 0)))] H := hP
  have hD : va_D A [(ch, .inr (2, [.ref q1, .null, .int 0])), (q1, .inl (cA2, 992, .inr (.inl (fun _ => 0)))), (q3, .inl (cA4, 992, .inl (fun _ => 0)))] := hD
  have hK : va_K (dC, dI) kCl [(cA2, .long), (cA4, .byte)] s := hK
  refine W.widen (k := 2) (n := 1984) (Nat.le_of_ble_eq_true rfl) (Nat.le_of_ble_eq_true rfl) ?_
  refine va_putF (D := (dC, dI)) (cl := kCl) (ci := 2) (v := .ref q3) (ty := (.array .byte)) (C := RK) (T := TK) (N := 3) (pc := 19) hx hb hts inK tyK tyK_ok nmK hown hK hP hD hS 0 rfl rfl 1 (by decide) (hts _ wd_235) (fun _ h9 => h9) rfl hin rfl (by decide +kernel) rfl rfl (Nat.le_of_ble_eq_true rfl) dK_init_19 (fun H locs hP hD hS => ?_)
  have hP : va_P (dC, dI) kCl [(ch, .inr (2, [.ref q1, .ref q3, .int 0])), (q1, .inl (cA2, 992, .inr (.inl (fun _ => 0)))), (q3, .inl (cA4, 992, .inl (fun _ => 0)))] H := hP
  have hD : va_D A [(ch, .inr (2, [.ref q1, .ref q3, .int 0])), (q1, .inl (cA2, 992, .inr (.inl (fun _ => 0)))), (q3, .inl (cA4, 992, .inl (fun _ => 0)))] := hD
  have hP9 := hP.sub (ws' := [(ch, .inr (2, [.ref q1, .ref q3, .int 0])), (q1, .inl (cA2, 992, .inr (.inl (fun _ => 0)))), (q3, .inl (cA4, 992, .inl (fun _ => 0)))]) [0, 1, 2] rfl
  have hD9 := hD.sub (ws' := [(ch, .inr (2, [.ref q1, .ref q3, .int 0])), (q1, .inl (cA2, 992, .inr (.inl (fun _ => 0)))), (q3, .inl (cA4, 992, .inl (fun _ => 0)))]) [0, 1, 2] (by decide) rfl
  have hK9 := hK.sub (tys' := [(cA2, .long), (cA4, .byte)]) [0, 1] rfl
  exact W.vret (pc := 22) hx hb hr (fun t ht hW => ⟨⟨(), rfl, trivial, q1, q3, cA2, cA4, by rw [ht]; exact hP9, va_K.moved hW.alike hK9, hD9⟩, hS.F ht⟩) hS.2.2 dK_init_22
set_option maxHeartbeats 4000000 in
set_option maxRecDepth 100000 in
theorem p_init (l : Launch) (dC : Nat → ClassId) (dI : Nat → Nat → Nat) (sz : Nat) (pg : Nat) : Met l yP_init (.code yP_init cP_init 1 none :: aw) ({ frames := 1, cells := 0, slots := 0, locals := 12 }) (pW (dC, dI) sz [(pg, .inr (3, [.int 0, .int 0, .int 0, .int 0, .int 0, .int 0]))] [] [.ref pg]) (va_Qv (fun (_ : Unit) => True) (fun _ t => wW (dC, dI) (va_A [(pg, .inr (3, [.int 0, .int 0, .int 0, .int 0, .int 0, .int 0]))] sz) [(pg, .inr (3, [.int 400, .int 0, .int 0, .int 0, .int 0, .int 0]))] [] t) (va_A [(pg, .inr (3, [.int 0, .int 0, .int 0, .int 0, .int 0, .int 0]))] sz)) 0 0 (va_A [(pg, .inr (3, [.int 0, .int 0, .int 0, .int 0, .int 0, .int 0]))] sz) := by
  refine Met.ofW (cc := cP_init) (maxL := 1) (ret := none) (by decide) rfl ?_
  intro p e s m args below meth c s₁ B hml hv
  obtain ⟨rfl, hv⟩ := hv
  have hx := B.exec
  have hb := B.bytes
  have hr := B.returns
  have hts : ∀ w ∈ aw, w.before _ s = true := fun w h => atoms_spec (ws := (.code yP_init cP_init 1 none :: aw)) B.pre w (List.mem_cons_of_mem _ h)
  have hown : s.vm.findClass RP = some m.cls := findClass_of_methodNamed B.named
  have hlocks := B.notSynchronized
  have hin : meth.name = "<init>" := (name_of_methodNamed B.named B.method).1
  obtain ⟨hsz, hP, hK, hD0⟩ := hv
  subst hsz
  have hD := hD0.self (sz := s.heap.size)
  generalize hAe : va_A [(pg, .inr (3, [.int 0, .int 0, .int 0, .int 0, .int 0, .int 0]))] s.heap.size = A at hD ⊢
  have hA : ∀ q : Nat, s.heap.size ≤ q → A q := fun q h => by rw [← hAe]; exact Or.inr h
  obtain ⟨H, hH⟩ : ∃ H, H = s.heap := ⟨_, rfl⟩
  have hS : va_S A s.heap H [] := by rw [hH]; exact va_S.rf
  rw [← hH] at hP ⊢
  have hP : va_P (dC, dI) kCl [(pg, .inr (3, [.int 0, .int 0, .int 0, .int 0, .int 0, .int 0]))] H := hP
  have hl := lv_entry ([.ref pg]) (n := 1) (Nat.le_of_ble_eq_true rfl)
  rw [lg_entry_eq]
  generalize (lg_sl ([.ref pg]) ++ List.replicate (1 - (lg_sl ([.ref pg])).length) Slot.unset).toArray = ls at hl ⊢
  have hl : lv_has ls 1 [(0, .ref pg)] := hl
  refine lv_aload_n (pc := 0) hx hb dP_init_0 rfl (lv_at hl 0 rfl) ?_
  refine W.objInit hx hb hown (hts _ wd_236) (hts _ wd_222) (hts _ wd_223) rfl (by rw [hml]; exact hl.1) rfl dP_init_1 (Nat.le_of_ble_eq_true rfl) (Nat.le_of_ble_eq_true rfl) ?_
  refine W.eq (g2 := F0 m 4 ls []) rfl ?_
  refine lv_aload_n (pc := 4) hx hb dP_init_4 rfl (lv_at hl 0 rfl) ?_
  refine lv_sipush (pc := 5) (v := 400) hx hb dP_init_5 (by decide) ?_
  refine va_put (D := (dC, dI)) (cl := kCl) (ci := 3) (v := .int 400) (ty := .int) (C := RP) (T := TP) (N := 6) (pc := 8) hx hb hts inP tyP tyP_ok nmP hown hK hP hD hS 0 rfl rfl 0 (by decide) (hts _ wd_101) (fun _ h9 => h9) rfl (by decide +kernel) rfl rfl (Nat.le_of_ble_eq_true rfl) dP_init_8 (fun H locs hP hD hS => ?_)
  have hP : va_P (dC, dI) kCl [(pg, .inr (3, [.int 400, .int 0, .int 0, .int 0, .int 0, .int 0]))] H := hP
  have hD : va_D A [(pg, .inr (3, [.int 400, .int 0, .int 0, .int 0, .int 0, .int 0]))] := hD
  have hP9 := hP.sub (ws' := [(pg, .inr (3, [.int 400, .int 0, .int 0, .int 0, .int 0, .int 0]))]) [0] rfl
  have hD9 := hD.sub (ws' := [(pg, .inr (3, [.int 400, .int 0, .int 0, .int 0, .int 0, .int 0]))]) [0] (by decide) rfl
  have hK9 := hK.sub (tys' := []) [] rfl
  exact W.vret (pc := 11) hx hb hr (fun t ht hW => ⟨⟨(), rfl, trivial, by rw [ht]; exact hP9, va_K.moved hW.alike hK9, hD9⟩, hS.F ht⟩) hS.2.2 dP_init_11
set_option maxHeartbeats 4000000 in
set_option maxRecDepth 100000 in
theorem v_init (l : Launch) (dC : Nat → ClassId) (dI : Nat → Nat → Nat) (sz : Nat) (x : Nat) : Met l yV_init (.code yV_init cV_init 1 none :: aw) ({ frames := 2, cells := 10, slots := 2094, locals := 43 }) (pWx (dC, dI) sz [(x, .inr (0, [.null, .null, .int 0, .int 0, .null, .null, .null, .null, .int 0]))] [] [.ref x] eV) (va_Qv (fun (_ : Unit) => True) (fun _ t => ∃ (rt : Nat) (dr : Nat) (bs : Nat) (df : Nat) (ch : Nat) (pg : Nat) (dv : Nat) (do9 : Nat) (cp : Nat) (cn : Nat) (cR : ClassId) (cB : ClassId) (cF : ClassId) (fv : Nat → Int32), wW (dC, dI) (va_A [(x, .inr (0, [.null, .null, .int 0, .int 0, .null, .null, .null, .null, .int 0]))] sz) [(x, .inr (0, [.ref rt, .ref dr, .int 0, .int 0, .ref bs, .ref df, .ref ch, .ref pg, .int 0])), (rt, .inl (cR, 16, .inl (fun _ => 0))), (pg, .inr (3, [.int 400, .int 0, .int 0, .int 0, .int 0, .int 0])), (bs, .inl (cB, 10, .inr (.inr (.inr (.inr (fun _ => none)))))), (df, .inr (1, [.ref dv, .ref do9, .int 0])), (dv, .inl (cF, 24, .inl fv)), (ch, .inr (2, [.ref cp, .ref cn, .int 0]))] [(cR, .int), (cB, .object "DrawingVault$Baseline"), (cF, .int)] t) (va_A [(x, .inr (0, [.null, .null, .int 0, .int 0, .null, .null, .null, .null, .int 0]))] sz)) 10 2094 (va_A [(x, .inr (0, [.null, .null, .int 0, .int 0, .null, .null, .null, .null, .int 0]))] sz) := by
  refine Met.ofW (cc := cV_init) (maxL := 1) (ret := none) (by decide) rfl ?_
  intro p e s m args below meth c s₁ B hml hv
  obtain ⟨rfl, hv⟩ := hv
  have hx := B.exec
  have hb := B.bytes
  have hr := B.returns
  have hts : ∀ w ∈ aw, w.before _ s = true := fun w h => atoms_spec (ws := (.code yV_init cV_init 1 none :: aw)) B.pre w (List.mem_cons_of_mem _ h)
  have hown : s.vm.findClass RV = some m.cls := findClass_of_methodNamed B.named
  have hlocks := B.notSynchronized
  have hin : meth.name = "<init>" := (name_of_methodNamed B.named B.method).1
  obtain ⟨hsz, hP, hK, hD0, ⟨hn32, hn39, hoD, hoB⟩⟩ := hv
  subst hsz
  have hD := hD0.self (sz := s.heap.size)
  generalize hAe : va_A [(x, .inr (0, [.null, .null, .int 0, .int 0, .null, .null, .null, .null, .int 0]))] s.heap.size = A at hD ⊢
  have hA : ∀ q : Nat, s.heap.size ≤ q → A q := fun q h => by rw [← hAe]; exact Or.inr h
  obtain ⟨H, hH⟩ : ∃ H, H = s.heap := ⟨_, rfl⟩
  have hS : va_S A s.heap H [] := by rw [hH]; exact va_S.rf
  rw [← hH] at hP ⊢
  have hP : va_P (dC, dI) kCl [(x, .inr (0, [.null, .null, .int 0, .int 0, .null, .null, .null, .null, .int 0]))] H := hP
  have hl := lv_entry ([.ref x]) (n := 1) (Nat.le_of_ble_eq_true rfl)
  rw [lg_entry_eq]
  generalize (lg_sl ([.ref x]) ++ List.replicate (1 - (lg_sl ([.ref x])).length) Slot.unset).toArray = ls at hl ⊢
  have hl : lv_has ls 1 [(0, .ref x)] := hl
  refine lv_aload_n (pc := 0) hx hb dV_init_0 rfl (lv_at hl 0 rfl) ?_
  refine W.objInit hx hb hown (hts _ wd_237) (hts _ wd_222) (hts _ wd_223) rfl (by rw [hml]; exact hl.1) rfl dV_init_1 (Nat.le_of_ble_eq_true rfl) (Nat.le_of_ble_eq_true rfl) ?_
  refine W.eq (g2 := F0 m 4 ls []) rfl ?_
  refine lv_aload_n (pc := 4) hx hb dV_init_4 rfl (lv_at hl 0 rfl) ?_
  refine lv_bipush (pc := 5) (v := 16) hx hb dV_init_5 (by decide) ?_
  refine va_newa (atype := .int) (D := (dC, dI)) (cl := kCl) (pc := 7) (ty := .int) (n := 16) (N' := 16) (a0 := (16, .inl (fun _ => 0))) hx hb (hts _ wd_224) rfl hK hP hD hS hA (fun cA => rfl) (by decide) (by decide) (by decide) (Nat.le_of_ble_eq_true rfl) (Nat.le_of_ble_eq_true rfl) dV_init_7 (fun q1 cA2 H hK hP hD hS => ?_)
  have hP : va_P (dC, dI) kCl [(x, .inr (0, [.null, .null, .int 0, .int 0, .null, .null, .null, .null, .int 0])), (q1, .inl (cA2, 16, .inl (fun _ => 0)))] H := hP
  have hD : va_D A [(x, .inr (0, [.null, .null, .int 0, .int 0, .null, .null, .null, .null, .int 0])), (q1, .inl (cA2, 16, .inl (fun _ => 0)))] := hD
  have hK : va_K (dC, dI) kCl [(cA2, .int)] s := hK
  refine W.widen (k := 1) (n := 16) (Nat.le_of_ble_eq_true rfl) (Nat.le_of_ble_eq_true rfl) ?_
  refine va_putF (D := (dC, dI)) (cl := kCl) (ci := 0) (v := .ref q1) (ty := (.array .int)) (C := RV) (T := TV) (N := 9) (pc := 9) hx hb hts inV tyV tyV_ok nmV hown hK hP hD hS 0 rfl rfl 0 (by decide) (hts _ wd_36) (fun _ h9 => h9) rfl hin rfl (by decide +kernel) rfl rfl (Nat.le_of_ble_eq_true rfl) dV_init_9 (fun H locs hP hD hS => ?_)
  have hP : va_P (dC, dI) kCl [(x, .inr (0, [.ref q1, .null, .int 0, .int 0, .null, .null, .null, .null, .int 0])), (q1, .inl (cA2, 16, .inl (fun _ => 0)))] H := hP
  have hD : va_D A [(x, .inr (0, [.ref q1, .null, .int 0, .int 0, .null, .null, .null, .null, .int 0])), (q1, .inl (cA2, 16, .inl (fun _ => 0)))] := hD
  refine lv_aload_n (pc := 12) hx hb dV_init_12 rfl (lv_at hl 0 rfl) ?_
  refine lv_bipush (pc := 13) (v := 24) hx hb dV_init_13 (by decide) ?_
  refine va_newq (D := (dC, dI)) (cl := kCl) (pc := 15) (n := 24) (N' := 24) (C := "DrawingVault$Drawing") hx hb hown (hts _ wd_238) hoD hK hP hD hS hA (by decide) (by decide) (by decide) (Nat.le_of_ble_eq_true rfl) (Nat.le_of_ble_eq_true rfl) dV_init_15 (fun q3 cA4 H hK hP hD hS => ?_)
  have hP : va_P (dC, dI) kCl [(x, .inr (0, [.ref q1, .null, .int 0, .int 0, .null, .null, .null, .null, .int 0])), (q1, .inl (cA2, 16, .inl (fun _ => 0))), (q3, .inl (cA4, 24, .inr (.inr (.inr (.inr (fun _ => none))))))] H := hP
  have hD : va_D A [(x, .inr (0, [.ref q1, .null, .int 0, .int 0, .null, .null, .null, .null, .int 0])), (q1, .inl (cA2, 16, .inl (fun _ => 0))), (q3, .inl (cA4, 24, .inr (.inr (.inr (.inr (fun _ => none))))))] := hD
  have hK : va_K (dC, dI) kCl [(cA2, .int), (cA4, .object "DrawingVault$Drawing")] s := hK
  refine W.widen (k := 2) (n := 40) (Nat.le_of_ble_eq_true rfl) (Nat.le_of_ble_eq_true rfl) ?_
  refine va_putF (D := (dC, dI)) (cl := kCl) (ci := 0) (v := .ref q3) (ty := (.array (.object "DrawingVault$Drawing"))) (C := RV) (T := TV) (N := 9) (pc := 18) hx hb hts inV tyV tyV_ok nmV hown hK hP hD hS 0 rfl rfl 1 (by decide) (hts _ wd_239) (fun _ h9 => h9) rfl hin rfl (by decide +kernel) rfl rfl (Nat.le_of_ble_eq_true rfl) dV_init_18 (fun H locs hP hD hS => ?_)
  have hP : va_P (dC, dI) kCl [(x, .inr (0, [.ref q1, .ref q3, .int 0, .int 0, .null, .null, .null, .null, .int 0])), (q1, .inl (cA2, 16, .inl (fun _ => 0))), (q3, .inl (cA4, 24, .inr (.inr (.inr (.inr (fun _ => none))))))] H := hP
  have hD : va_D A [(x, .inr (0, [.ref q1, .ref q3, .int 0, .int 0, .null, .null, .null, .null, .int 0])), (q1, .inl (cA2, 16, .inl (fun _ => 0))), (q3, .inl (cA4, 24, .inr (.inr (.inr (.inr (fun _ => none))))))] := hD
  refine lv_aload_n (pc := 21) hx hb dV_init_21 rfl (lv_at hl 0 rfl) ?_
  refine lv_bipush (pc := 22) (v := 10) hx hb dV_init_22 (by decide) ?_
  refine va_newq (D := (dC, dI)) (cl := kCl) (pc := 24) (n := 10) (N' := 10) (C := "DrawingVault$Baseline") hx hb hown (hts _ wd_240) hoB hK hP hD hS hA (by decide) (by decide) (by decide) (Nat.le_of_ble_eq_true rfl) (Nat.le_of_ble_eq_true rfl) dV_init_24 (fun q5 cA6 H hK hP hD hS => ?_)
  have hP : va_P (dC, dI) kCl [(x, .inr (0, [.ref q1, .ref q3, .int 0, .int 0, .null, .null, .null, .null, .int 0])), (q1, .inl (cA2, 16, .inl (fun _ => 0))), (q3, .inl (cA4, 24, .inr (.inr (.inr (.inr (fun _ => none)))))), (q5, .inl (cA6, 10, .inr (.inr (.inr (.inr (fun _ => none))))))] H := hP
  have hD : va_D A [(x, .inr (0, [.ref q1, .ref q3, .int 0, .int 0, .null, .null, .null, .null, .int 0])), (q1, .inl (cA2, 16, .inl (fun _ => 0))), (q3, .inl (cA4, 24, .inr (.inr (.inr (.inr (fun _ => none)))))), (q5, .inl (cA6, 10, .inr (.inr (.inr (.inr (fun _ => none))))))] := hD
  have hK : va_K (dC, dI) kCl [(cA2, .int), (cA4, .object "DrawingVault$Drawing"), (cA6, .object "DrawingVault$Baseline")] s := hK
  refine W.widen (k := 3) (n := 50) (Nat.le_of_ble_eq_true rfl) (Nat.le_of_ble_eq_true rfl) ?_
  refine va_putF (D := (dC, dI)) (cl := kCl) (ci := 0) (v := .ref q5) (ty := (.array (.object "DrawingVault$Baseline"))) (C := RV) (T := TV) (N := 9) (pc := 27) hx hb hts inV tyV tyV_ok nmV hown hK hP hD hS 0 rfl rfl 4 (by decide) (hts _ wd_44) (fun _ h9 => h9) rfl hin rfl (by decide +kernel) rfl rfl (Nat.le_of_ble_eq_true rfl) dV_init_27 (fun H locs hP hD hS => ?_)
  have hP : va_P (dC, dI) kCl [(x, .inr (0, [.ref q1, .ref q3, .int 0, .int 0, .ref q5, .null, .null, .null, .int 0])), (q1, .inl (cA2, 16, .inl (fun _ => 0))), (q3, .inl (cA4, 24, .inr (.inr (.inr (.inr (fun _ => none)))))), (q5, .inl (cA6, 10, .inr (.inr (.inr (.inr (fun _ => none))))))] H := hP
  have hD : va_D A [(x, .inr (0, [.ref q1, .ref q3, .int 0, .int 0, .ref q5, .null, .null, .null, .int 0])), (q1, .inl (cA2, 16, .inl (fun _ => 0))), (q3, .inl (cA4, 24, .inr (.inr (.inr (.inr (fun _ => none)))))), (q5, .inl (cA6, 10, .inr (.inr (.inr (.inr (fun _ => none))))))] := hD
  refine lv_aload_n (pc := 30) hx hb dV_init_30 rfl (lv_at hl 0 rfl) ?_
  refine va_new (D := (dC, dI)) (cl := kCl) (pc := 31) (ci := 1) (fs := [.null, .null, .int 0]) (C := RB) (T := TB) (N := 3) hx hb hts inB tyB tyB_ok hown (hts _ wd_240) (hts _ wd_241) (hts _ wd_242) hK hP hD hS hA rfl (fun j hj => by rcases (show j = 0 ∨ j = 1 ∨ j = 2 by omega) with rfl | rfl | rfl <;> rfl) (Nat.le_of_ble_eq_true rfl) (Nat.le_of_ble_eq_true rfl) dV_init_31 (fun q7 H hP hD hS => ?_)
  have hP : va_P (dC, dI) kCl [(x, .inr (0, [.ref q1, .ref q3, .int 0, .int 0, .ref q5, .null, .null, .null, .int 0])), (q1, .inl (cA2, 16, .inl (fun _ => 0))), (q3, .inl (cA4, 24, .inr (.inr (.inr (.inr (fun _ => none)))))), (q5, .inl (cA6, 10, .inr (.inr (.inr (.inr (fun _ => none)))))), (q7, .inr (1, [.null, .null, .int 0]))] H := hP
  have hD : va_D A [(x, .inr (0, [.ref q1, .ref q3, .int 0, .int 0, .ref q5, .null, .null, .null, .int 0])), (q1, .inl (cA2, 16, .inl (fun _ => 0))), (q3, .inl (cA4, 24, .inr (.inr (.inr (.inr (fun _ => none)))))), (q5, .inl (cA6, 10, .inr (.inr (.inr (.inr (fun _ => none)))))), (q7, .inr (1, [.null, .null, .int 0]))] := hD
  have hK : va_K (dC, dI) kCl [(cA2, .int), (cA4, .object "DrawingVault$Drawing"), (cA6, .object "DrawingVault$Baseline")] s := hK
  refine W.widen (k := 4) (n := 53) (Nat.le_of_ble_eq_true rfl) (Nat.le_of_ble_eq_true rfl) ?_
  refine lv_dup (pc := 34) hx hb dV_init_34 rfl ?_
  have hPc := hP.sub (ws' := [(q7, .inr (1, [.null, .null, .int 0]))]) [4] rfl
  have hDc := hD.sub (ws' := [(q7, .inr (1, [.null, .null, .int 0]))]) [4] (by decide) rfl
  have hKc := hK.sub (tys' := []) [] rfl
  have hFc := va_free (wc := [(q7, .inr (1, [.null, .null, .int 0]))]) hD hS hA [4] rfl
  refine va_callv (pc := 35) (va_runI (As := []) (rest := [.ref q7, .ref x]) ⟨hx, hb, hml, hown, hts⟩ (b_init l dC dI H.size q7) (cwI 0 hts (gI wd_243) rfl rfl rfl (hts _ wd_242) (hts _ wd_244) (hts _ wd_245) rfl (by decide +kernel) ⟨Nat.le_of_ble_eq_true rfl, Nat.le_of_ble_eq_true rfl⟩) ⟨pW_blind, pW_pre hPc hKc hDc⟩ rfl rfl hl.1 rfl (lv_room (Nat.le_of_ble_eq_true rfl)) dV_init_35 ⟨Nat.le_of_ble_eq_true rfl, Nat.le_of_ble_eq_true rfl⟩) hS (fun q _ h => hFc q h) hFc (fun u t H1 locs ht hvm hr9 hB hz1 hk1 hS => ?_)
  obtain ⟨dv10, do911, cF12, cO13, fv14, hP1, hK1, hD1⟩ := hB
  rw [ht] at hP1
  have hK1 := va_K.moved hvm.symm hK1
  obtain ⟨hP, hD⟩ := va_join (wr := [(x, .inr (0, [.ref q1, .ref q3, .int 0, .int 0, .ref q5, .null, .null, .null, .int 0])), (q1, .inl (cA2, 16, .inl (fun _ => 0))), (q3, .inl (cA4, 24, .inr (.inr (.inr (.inr (fun _ => none)))))), (q5, .inl (cA6, 10, .inr (.inr (.inr (.inr (fun _ => none))))))]) (w1 := [(q7, .inr (1, [.ref dv10, .ref do911, .int 0])), (dv10, .inl (cF12, 24, .inl fv14)), (do911, .inl (cO13, 24, .inl (fun _ => 0)))]) hP hD [4] [0, 1, 2, 3] rfl rfl (by decide) (by decide) hk1 hFc hP1 hD1
  generalize H1 = H at hP hS ⊢
  have hK := hK.app hK1
  have hK : va_K (dC, dI) kCl [(cA2, .int), (cA4, .object "DrawingVault$Drawing"), (cA6, .object "DrawingVault$Baseline"), (cF12, .int), (cO13, .int)] s := hK
  have hP : va_P (dC, dI) kCl [(x, .inr (0, [.ref q1, .ref q3, .int 0, .int 0, .ref q5, .null, .null, .null, .int 0])), (q1, .inl (cA2, 16, .inl (fun _ => 0))), (q3, .inl (cA4, 24, .inr (.inr (.inr (.inr (fun _ => none)))))), (q5, .inl (cA6, 10, .inr (.inr (.inr (.inr (fun _ => none)))))), (q7, .inr (1, [.ref dv10, .ref do911, .int 0])), (dv10, .inl (cF12, 24, .inl fv14)), (do911, .inl (cO13, 24, .inl (fun _ => 0)))] H := hP
  have hD : va_D A [(x, .inr (0, [.ref q1, .ref q3, .int 0, .int 0, .ref q5, .null, .null, .null, .int 0])), (q1, .inl (cA2, 16, .inl (fun _ => 0))), (q3, .inl (cA4, 24, .inr (.inr (.inr (.inr (fun _ => none)))))), (q5, .inl (cA6, 10, .inr (.inr (.inr (.inr (fun _ => none)))))), (q7, .inr (1, [.ref dv10, .ref do911, .int 0])), (dv10, .inl (cF12, 24, .inl fv14)), (do911, .inl (cO13, 24, .inl (fun _ => 0)))] := hD
  refine W.widen (k := 6) (n := 101) (Nat.le_of_ble_eq_true rfl) (Nat.le_of_ble_eq_true rfl) ?_
  refine va_put (D := (dC, dI)) (cl := kCl) (ci := 0) (v := .ref q7) (ty := (.object "DrawingVault$Baseline")) (C := RV) (T := TV) (N := 9) (pc := 38) hx hb hts inV tyV tyV_ok nmV hown hK hP hD hS 0 rfl rfl 5 (by decide) (hts _ wd_246) (fun _ h9 => h9) rfl (by decide +kernel) rfl rfl (Nat.le_of_ble_eq_true rfl) dV_init_38 (fun H locs hP hD hS => ?_)
  have hP : va_P (dC, dI) kCl [(x, .inr (0, [.ref q1, .ref q3, .int 0, .int 0, .ref q5, .ref q7, .null, .null, .int 0])), (q1, .inl (cA2, 16, .inl (fun _ => 0))), (q3, .inl (cA4, 24, .inr (.inr (.inr (.inr (fun _ => none)))))), (q5, .inl (cA6, 10, .inr (.inr (.inr (.inr (fun _ => none)))))), (q7, .inr (1, [.ref dv10, .ref do911, .int 0])), (dv10, .inl (cF12, 24, .inl fv14)), (do911, .inl (cO13, 24, .inl (fun _ => 0)))] H := hP
  have hD : va_D A [(x, .inr (0, [.ref q1, .ref q3, .int 0, .int 0, .ref q5, .ref q7, .null, .null, .int 0])), (q1, .inl (cA2, 16, .inl (fun _ => 0))), (q3, .inl (cA4, 24, .inr (.inr (.inr (.inr (fun _ => none)))))), (q5, .inl (cA6, 10, .inr (.inr (.inr (.inr (fun _ => none)))))), (q7, .inr (1, [.ref dv10, .ref do911, .int 0])), (dv10, .inl (cF12, 24, .inl fv14)), (do911, .inl (cO13, 24, .inl (fun _ => 0)))] := hD
  refine lv_aload_n (pc := 41) hx hb dV_init_41 rfl (lv_at hl 0 rfl) ?_
  refine va_new (D := (dC, dI)) (cl := kCl) (pc := 42) (ci := 2) (fs := [.null, .null, .int 0]) (C := RK) (T := TK) (N := 3) hx hb hts inK tyK tyK_ok hown (hts _ wd_247) (hts _ wd_248) (hts _ wd_135) hK hP hD hS hA rfl (fun j hj => by rcases (show j = 0 ∨ j = 1 ∨ j = 2 by omega) with rfl | rfl | rfl <;> rfl) (Nat.le_of_ble_eq_true rfl) (Nat.le_of_ble_eq_true rfl) dV_init_42 (fun q16 H hP hD hS => ?_)
  have hP : va_P (dC, dI) kCl [(x, .inr (0, [.ref q1, .ref q3, .int 0, .int 0, .ref q5, .ref q7, .null, .null, .int 0])), (q1, .inl (cA2, 16, .inl (fun _ => 0))), (q3, .inl (cA4, 24, .inr (.inr (.inr (.inr (fun _ => none)))))), (q5, .inl (cA6, 10, .inr (.inr (.inr (.inr (fun _ => none)))))), (q7, .inr (1, [.ref dv10, .ref do911, .int 0])), (dv10, .inl (cF12, 24, .inl fv14)), (do911, .inl (cO13, 24, .inl (fun _ => 0))), (q16, .inr (2, [.null, .null, .int 0]))] H := hP
  have hD : va_D A [(x, .inr (0, [.ref q1, .ref q3, .int 0, .int 0, .ref q5, .ref q7, .null, .null, .int 0])), (q1, .inl (cA2, 16, .inl (fun _ => 0))), (q3, .inl (cA4, 24, .inr (.inr (.inr (.inr (fun _ => none)))))), (q5, .inl (cA6, 10, .inr (.inr (.inr (.inr (fun _ => none)))))), (q7, .inr (1, [.ref dv10, .ref do911, .int 0])), (dv10, .inl (cF12, 24, .inl fv14)), (do911, .inl (cO13, 24, .inl (fun _ => 0))), (q16, .inr (2, [.null, .null, .int 0]))] := hD
  have hK : va_K (dC, dI) kCl [(cA2, .int), (cA4, .object "DrawingVault$Drawing"), (cA6, .object "DrawingVault$Baseline"), (cF12, .int), (cO13, .int)] s := hK
  refine W.widen (k := 7) (n := 104) (Nat.le_of_ble_eq_true rfl) (Nat.le_of_ble_eq_true rfl) ?_
  refine lv_dup (pc := 45) hx hb dV_init_45 rfl ?_
  have hPc := hP.sub (ws' := [(q16, .inr (2, [.null, .null, .int 0]))]) [7] rfl
  have hDc := hD.sub (ws' := [(q16, .inr (2, [.null, .null, .int 0]))]) [7] (by decide) rfl
  have hKc := hK.sub (tys' := []) [] rfl
  have hFc := va_free (wc := [(q16, .inr (2, [.null, .null, .int 0]))]) hD hS hA [7] rfl
  refine va_callv (pc := 46) (va_runIN (As := []) (rest := [.ref q16, .ref x]) ⟨hx, hb, hml, hown, hts⟩ (k_init l dC dI H.size q16) (⟨va_cnB 0 hts (gI wd_249) rfl rfl rfl hn32 (hts _ wd_135) (by decide +kernel) ⟨Nat.le_of_ble_eq_true rfl, Nat.le_of_ble_eq_true rfl⟩, rfl, hts _ wd_250⟩) ⟨pW_blind, pW_pre hPc hKc hDc⟩ rfl rfl hl.1 rfl (lv_room (Nat.le_of_ble_eq_true rfl)) dV_init_46 ⟨Nat.le_of_ble_eq_true rfl, Nat.le_of_ble_eq_true rfl⟩) hS (fun q _ h => hFc q h) hFc (fun u t H1 locs ht hvm hr18 hB hz1 hk1 hS => ?_)
  obtain ⟨cp19, cn20, cP21, cL22, hP1, hK1, hD1⟩ := hB
  rw [ht] at hP1
  have hK1 := va_K.moved hvm.symm hK1
  obtain ⟨hP, hD⟩ := va_join (wr := [(x, .inr (0, [.ref q1, .ref q3, .int 0, .int 0, .ref q5, .ref q7, .null, .null, .int 0])), (q1, .inl (cA2, 16, .inl (fun _ => 0))), (q3, .inl (cA4, 24, .inr (.inr (.inr (.inr (fun _ => none)))))), (q5, .inl (cA6, 10, .inr (.inr (.inr (.inr (fun _ => none)))))), (q7, .inr (1, [.ref dv10, .ref do911, .int 0])), (dv10, .inl (cF12, 24, .inl fv14)), (do911, .inl (cO13, 24, .inl (fun _ => 0)))]) (w1 := [(q16, .inr (2, [.ref cp19, .ref cn20, .int 0])), (cp19, .inl (cP21, 992, .inr (.inl (fun _ => 0)))), (cn20, .inl (cL22, 992, .inl (fun _ => 0)))]) hP hD [7] [0, 1, 2, 3, 4, 5, 6] rfl rfl (by decide) (by decide) hk1 hFc hP1 hD1
  generalize H1 = H at hP hS ⊢
  have hK := hK.app hK1
  have hK : va_K (dC, dI) kCl [(cA2, .int), (cA4, .object "DrawingVault$Drawing"), (cA6, .object "DrawingVault$Baseline"), (cF12, .int), (cO13, .int), (cP21, .long), (cL22, .byte)] s := hK
  have hP : va_P (dC, dI) kCl [(x, .inr (0, [.ref q1, .ref q3, .int 0, .int 0, .ref q5, .ref q7, .null, .null, .int 0])), (q1, .inl (cA2, 16, .inl (fun _ => 0))), (q3, .inl (cA4, 24, .inr (.inr (.inr (.inr (fun _ => none)))))), (q5, .inl (cA6, 10, .inr (.inr (.inr (.inr (fun _ => none)))))), (q7, .inr (1, [.ref dv10, .ref do911, .int 0])), (dv10, .inl (cF12, 24, .inl fv14)), (do911, .inl (cO13, 24, .inl (fun _ => 0))), (q16, .inr (2, [.ref cp19, .ref cn20, .int 0])), (cp19, .inl (cP21, 992, .inr (.inl (fun _ => 0)))), (cn20, .inl (cL22, 992, .inl (fun _ => 0)))] H := hP
  have hD : va_D A [(x, .inr (0, [.ref q1, .ref q3, .int 0, .int 0, .ref q5, .ref q7, .null, .null, .int 0])), (q1, .inl (cA2, 16, .inl (fun _ => 0))), (q3, .inl (cA4, 24, .inr (.inr (.inr (.inr (fun _ => none)))))), (q5, .inl (cA6, 10, .inr (.inr (.inr (.inr (fun _ => none)))))), (q7, .inr (1, [.ref dv10, .ref do911, .int 0])), (dv10, .inl (cF12, 24, .inl fv14)), (do911, .inl (cO13, 24, .inl (fun _ => 0))), (q16, .inr (2, [.ref cp19, .ref cn20, .int 0])), (cp19, .inl (cP21, 992, .inr (.inl (fun _ => 0)))), (cn20, .inl (cL22, 992, .inl (fun _ => 0)))] := hD
  refine W.widen (k := 9) (n := 2088) (Nat.le_of_ble_eq_true rfl) (Nat.le_of_ble_eq_true rfl) ?_
  refine va_putF (D := (dC, dI)) (cl := kCl) (ci := 0) (v := .ref q16) (ty := (.object "DrawingVault$ChunkSet")) (C := RV) (T := TV) (N := 9) (pc := 49) hx hb hts inV tyV tyV_ok nmV hown hK hP hD hS 0 rfl rfl 6 (by decide) (hts _ wd_130) (fun _ h9 => h9) rfl hin rfl (by decide +kernel) rfl rfl (Nat.le_of_ble_eq_true rfl) dV_init_49 (fun H locs hP hD hS => ?_)
  have hP : va_P (dC, dI) kCl [(x, .inr (0, [.ref q1, .ref q3, .int 0, .int 0, .ref q5, .ref q7, .ref q16, .null, .int 0])), (q1, .inl (cA2, 16, .inl (fun _ => 0))), (q3, .inl (cA4, 24, .inr (.inr (.inr (.inr (fun _ => none)))))), (q5, .inl (cA6, 10, .inr (.inr (.inr (.inr (fun _ => none)))))), (q7, .inr (1, [.ref dv10, .ref do911, .int 0])), (dv10, .inl (cF12, 24, .inl fv14)), (do911, .inl (cO13, 24, .inl (fun _ => 0))), (q16, .inr (2, [.ref cp19, .ref cn20, .int 0])), (cp19, .inl (cP21, 992, .inr (.inl (fun _ => 0)))), (cn20, .inl (cL22, 992, .inl (fun _ => 0)))] H := hP
  have hD : va_D A [(x, .inr (0, [.ref q1, .ref q3, .int 0, .int 0, .ref q5, .ref q7, .ref q16, .null, .int 0])), (q1, .inl (cA2, 16, .inl (fun _ => 0))), (q3, .inl (cA4, 24, .inr (.inr (.inr (.inr (fun _ => none)))))), (q5, .inl (cA6, 10, .inr (.inr (.inr (.inr (fun _ => none)))))), (q7, .inr (1, [.ref dv10, .ref do911, .int 0])), (dv10, .inl (cF12, 24, .inl fv14)), (do911, .inl (cO13, 24, .inl (fun _ => 0))), (q16, .inr (2, [.ref cp19, .ref cn20, .int 0])), (cp19, .inl (cP21, 992, .inr (.inl (fun _ => 0)))), (cn20, .inl (cL22, 992, .inl (fun _ => 0)))] := hD
  refine lv_aload_n (pc := 52) hx hb dV_init_52 rfl (lv_at hl 0 rfl) ?_
  refine va_new (D := (dC, dI)) (cl := kCl) (pc := 53) (ci := 3) (fs := [.int 0, .int 0, .int 0, .int 0, .int 0, .int 0]) (C := RP) (T := TP) (N := 6) hx hb hts inP tyP tyP_ok hown (hts _ wd_251) (hts _ wd_252) (hts _ wd_60) hK hP hD hS hA rfl (fun j hj => by rcases (show j = 0 ∨ j = 1 ∨ j = 2 ∨ j = 3 ∨ j = 4 ∨ j = 5 by omega) with rfl | rfl | rfl | rfl | rfl | rfl <;> rfl) (Nat.le_of_ble_eq_true rfl) (Nat.le_of_ble_eq_true rfl) dV_init_53 (fun q24 H hP hD hS => ?_)
  have hP : va_P (dC, dI) kCl [(x, .inr (0, [.ref q1, .ref q3, .int 0, .int 0, .ref q5, .ref q7, .ref q16, .null, .int 0])), (q1, .inl (cA2, 16, .inl (fun _ => 0))), (q3, .inl (cA4, 24, .inr (.inr (.inr (.inr (fun _ => none)))))), (q5, .inl (cA6, 10, .inr (.inr (.inr (.inr (fun _ => none)))))), (q7, .inr (1, [.ref dv10, .ref do911, .int 0])), (dv10, .inl (cF12, 24, .inl fv14)), (do911, .inl (cO13, 24, .inl (fun _ => 0))), (q16, .inr (2, [.ref cp19, .ref cn20, .int 0])), (cp19, .inl (cP21, 992, .inr (.inl (fun _ => 0)))), (cn20, .inl (cL22, 992, .inl (fun _ => 0))), (q24, .inr (3, [.int 0, .int 0, .int 0, .int 0, .int 0, .int 0]))] H := hP
  have hD : va_D A [(x, .inr (0, [.ref q1, .ref q3, .int 0, .int 0, .ref q5, .ref q7, .ref q16, .null, .int 0])), (q1, .inl (cA2, 16, .inl (fun _ => 0))), (q3, .inl (cA4, 24, .inr (.inr (.inr (.inr (fun _ => none)))))), (q5, .inl (cA6, 10, .inr (.inr (.inr (.inr (fun _ => none)))))), (q7, .inr (1, [.ref dv10, .ref do911, .int 0])), (dv10, .inl (cF12, 24, .inl fv14)), (do911, .inl (cO13, 24, .inl (fun _ => 0))), (q16, .inr (2, [.ref cp19, .ref cn20, .int 0])), (cp19, .inl (cP21, 992, .inr (.inl (fun _ => 0)))), (cn20, .inl (cL22, 992, .inl (fun _ => 0))), (q24, .inr (3, [.int 0, .int 0, .int 0, .int 0, .int 0, .int 0]))] := hD
  have hK : va_K (dC, dI) kCl [(cA2, .int), (cA4, .object "DrawingVault$Drawing"), (cA6, .object "DrawingVault$Baseline"), (cF12, .int), (cO13, .int), (cP21, .long), (cL22, .byte)] s := hK
  refine W.widen (k := 10) (n := 2094) (Nat.le_of_ble_eq_true rfl) (Nat.le_of_ble_eq_true rfl) ?_
  refine lv_dup (pc := 56) hx hb dV_init_56 rfl ?_
  have hPc := hP.sub (ws' := [(q24, .inr (3, [.int 0, .int 0, .int 0, .int 0, .int 0, .int 0]))]) [10] rfl
  have hDc := hD.sub (ws' := [(q24, .inr (3, [.int 0, .int 0, .int 0, .int 0, .int 0, .int 0]))]) [10] (by decide) rfl
  have hKc := hK.sub (tys' := []) [] rfl
  have hFc := va_free (wc := [(q24, .inr (3, [.int 0, .int 0, .int 0, .int 0, .int 0, .int 0]))]) hD hS hA [10] rfl
  refine va_callv (pc := 57) (va_runIN (As := []) (rest := [.ref q24, .ref x]) ⟨hx, hb, hml, hown, hts⟩ (p_init l dC dI H.size q24) (⟨va_cnB 0 hts (gI wd_253) rfl rfl rfl hn39 (hts _ wd_60) (by decide +kernel) ⟨Nat.le_of_ble_eq_true rfl, Nat.le_of_ble_eq_true rfl⟩, rfl, hts _ wd_254⟩) ⟨pW_blind, pW_pre hPc hKc hDc⟩ rfl rfl hl.1 rfl (lv_room (Nat.le_of_ble_eq_true rfl)) dV_init_57 ⟨Nat.le_of_ble_eq_true rfl, Nat.le_of_ble_eq_true rfl⟩) hS (fun q _ h => hFc q h) hFc (fun u t H1 locs ht hvm hr26 hB hz1 hk1 hS => ?_)
  obtain ⟨hP1, hK1, hD1⟩ := hB
  rw [ht] at hP1
  have hK1 := va_K.moved hvm.symm hK1
  obtain ⟨hP, hD⟩ := va_join (wr := [(x, .inr (0, [.ref q1, .ref q3, .int 0, .int 0, .ref q5, .ref q7, .ref q16, .null, .int 0])), (q1, .inl (cA2, 16, .inl (fun _ => 0))), (q3, .inl (cA4, 24, .inr (.inr (.inr (.inr (fun _ => none)))))), (q5, .inl (cA6, 10, .inr (.inr (.inr (.inr (fun _ => none)))))), (q7, .inr (1, [.ref dv10, .ref do911, .int 0])), (dv10, .inl (cF12, 24, .inl fv14)), (do911, .inl (cO13, 24, .inl (fun _ => 0))), (q16, .inr (2, [.ref cp19, .ref cn20, .int 0])), (cp19, .inl (cP21, 992, .inr (.inl (fun _ => 0)))), (cn20, .inl (cL22, 992, .inl (fun _ => 0)))]) (w1 := [(q24, .inr (3, [.int 400, .int 0, .int 0, .int 0, .int 0, .int 0]))]) hP hD [10] [0, 1, 2, 3, 4, 5, 6, 7, 8, 9] rfl rfl (by decide) (by decide) hk1 hFc hP1 hD1
  generalize H1 = H at hP hS ⊢
  have hP : va_P (dC, dI) kCl [(x, .inr (0, [.ref q1, .ref q3, .int 0, .int 0, .ref q5, .ref q7, .ref q16, .null, .int 0])), (q1, .inl (cA2, 16, .inl (fun _ => 0))), (q3, .inl (cA4, 24, .inr (.inr (.inr (.inr (fun _ => none)))))), (q5, .inl (cA6, 10, .inr (.inr (.inr (.inr (fun _ => none)))))), (q7, .inr (1, [.ref dv10, .ref do911, .int 0])), (dv10, .inl (cF12, 24, .inl fv14)), (do911, .inl (cO13, 24, .inl (fun _ => 0))), (q16, .inr (2, [.ref cp19, .ref cn20, .int 0])), (cp19, .inl (cP21, 992, .inr (.inl (fun _ => 0)))), (cn20, .inl (cL22, 992, .inl (fun _ => 0))), (q24, .inr (3, [.int 400, .int 0, .int 0, .int 0, .int 0, .int 0]))] H := hP
  have hD : va_D A [(x, .inr (0, [.ref q1, .ref q3, .int 0, .int 0, .ref q5, .ref q7, .ref q16, .null, .int 0])), (q1, .inl (cA2, 16, .inl (fun _ => 0))), (q3, .inl (cA4, 24, .inr (.inr (.inr (.inr (fun _ => none)))))), (q5, .inl (cA6, 10, .inr (.inr (.inr (.inr (fun _ => none)))))), (q7, .inr (1, [.ref dv10, .ref do911, .int 0])), (dv10, .inl (cF12, 24, .inl fv14)), (do911, .inl (cO13, 24, .inl (fun _ => 0))), (q16, .inr (2, [.ref cp19, .ref cn20, .int 0])), (cp19, .inl (cP21, 992, .inr (.inl (fun _ => 0)))), (cn20, .inl (cL22, 992, .inl (fun _ => 0))), (q24, .inr (3, [.int 400, .int 0, .int 0, .int 0, .int 0, .int 0]))] := hD
  refine W.widen (k := 10) (n := 2094) (Nat.le_of_ble_eq_true rfl) (Nat.le_of_ble_eq_true rfl) ?_
  refine va_putF (D := (dC, dI)) (cl := kCl) (ci := 0) (v := .ref q24) (ty := (.object "DrawingVault$Pages")) (C := RV) (T := TV) (N := 9) (pc := 60) hx hb hts inV tyV tyV_ok nmV hown hK hP hD hS 0 rfl rfl 7 (by decide) (hts _ wd_37) (fun _ h9 => h9) rfl hin rfl (by decide +kernel) rfl rfl (Nat.le_of_ble_eq_true rfl) dV_init_60 (fun H locs hP hD hS => ?_)
  have hP : va_P (dC, dI) kCl [(x, .inr (0, [.ref q1, .ref q3, .int 0, .int 0, .ref q5, .ref q7, .ref q16, .ref q24, .int 0])), (q1, .inl (cA2, 16, .inl (fun _ => 0))), (q3, .inl (cA4, 24, .inr (.inr (.inr (.inr (fun _ => none)))))), (q5, .inl (cA6, 10, .inr (.inr (.inr (.inr (fun _ => none)))))), (q7, .inr (1, [.ref dv10, .ref do911, .int 0])), (dv10, .inl (cF12, 24, .inl fv14)), (do911, .inl (cO13, 24, .inl (fun _ => 0))), (q16, .inr (2, [.ref cp19, .ref cn20, .int 0])), (cp19, .inl (cP21, 992, .inr (.inl (fun _ => 0)))), (cn20, .inl (cL22, 992, .inl (fun _ => 0))), (q24, .inr (3, [.int 400, .int 0, .int 0, .int 0, .int 0, .int 0]))] H := hP
  have hD : va_D A [(x, .inr (0, [.ref q1, .ref q3, .int 0, .int 0, .ref q5, .ref q7, .ref q16, .ref q24, .int 0])), (q1, .inl (cA2, 16, .inl (fun _ => 0))), (q3, .inl (cA4, 24, .inr (.inr (.inr (.inr (fun _ => none)))))), (q5, .inl (cA6, 10, .inr (.inr (.inr (.inr (fun _ => none)))))), (q7, .inr (1, [.ref dv10, .ref do911, .int 0])), (dv10, .inl (cF12, 24, .inl fv14)), (do911, .inl (cO13, 24, .inl (fun _ => 0))), (q16, .inr (2, [.ref cp19, .ref cn20, .int 0])), (cp19, .inl (cP21, 992, .inr (.inl (fun _ => 0)))), (cn20, .inl (cL22, 992, .inl (fun _ => 0))), (q24, .inr (3, [.int 400, .int 0, .int 0, .int 0, .int 0, .int 0]))] := hD
  have hP9 := hP.sub (ws' := [(x, .inr (0, [.ref q1, .ref q3, .int 0, .int 0, .ref q5, .ref q7, .ref q16, .ref q24, .int 0])), (q1, .inl (cA2, 16, .inl (fun _ => 0))), (q24, .inr (3, [.int 400, .int 0, .int 0, .int 0, .int 0, .int 0])), (q5, .inl (cA6, 10, .inr (.inr (.inr (.inr (fun _ => none)))))), (q7, .inr (1, [.ref dv10, .ref do911, .int 0])), (dv10, .inl (cF12, 24, .inl fv14)), (q16, .inr (2, [.ref cp19, .ref cn20, .int 0]))]) [0, 1, 10, 3, 4, 5, 7] rfl
  have hD9 := hD.sub (ws' := [(x, .inr (0, [.ref q1, .ref q3, .int 0, .int 0, .ref q5, .ref q7, .ref q16, .ref q24, .int 0])), (q1, .inl (cA2, 16, .inl (fun _ => 0))), (q24, .inr (3, [.int 400, .int 0, .int 0, .int 0, .int 0, .int 0])), (q5, .inl (cA6, 10, .inr (.inr (.inr (.inr (fun _ => none)))))), (q7, .inr (1, [.ref dv10, .ref do911, .int 0])), (dv10, .inl (cF12, 24, .inl fv14)), (q16, .inr (2, [.ref cp19, .ref cn20, .int 0]))]) [0, 1, 10, 3, 4, 5, 7] (by decide) rfl
  have hK9 := hK.sub (tys' := [(cA2, .int), (cA6, .object "DrawingVault$Baseline"), (cF12, .int)]) [0, 2, 3] rfl
  exact W.vret (pc := 63) hx hb hr (fun t ht hW => ⟨⟨(), rfl, trivial, q1, q3, q5, q7, q16, q24, dv10, do911, cp19, cn20, cA2, cA6, cF12, fv14, by rw [ht]; exact hP9, va_K.moved hW.alike hK9, hD9⟩, hS.F ht⟩) hS.2.2 dV_init_63
set_option maxHeartbeats 4000000 in
set_option maxRecDepth 100000 in
theorem m_init (l : Launch) (dC : Nat → ClassId) (dI : Nat → Nat → Nat) (sz : Nat) (mo : Nat) : Met l yM_init (.code yM_init cM_init 1 none :: aw) ({ frames := 1, cells := 5, slots := 50816, locals := 21 }) (pW (dC, dI) sz [(mo, .inr (4, [.int 0, .int 0, .null, .null, .int 0, .int 0, .null, .null, .int 0, .int 0, .null]))] [] [.ref mo]) (va_Qv (fun (_ : Unit) => True) (fun _ t => ∃ (nw : Nat) (kp : Nat) (mk : Nat) (co : Nat) (se : Nat) (cN : ClassId) (cK : ClassId) (fk : Nat → Int32), (fk 16 = 0) ∧ wW (dC, dI) (va_A [(mo, .inr (4, [.int 0, .int 0, .null, .null, .int 0, .int 0, .null, .null, .int 0, .int 0, .null]))] sz) [(mo, .inr (4, [.int 0, .int 0, .ref nw, .ref kp, .int 0, .int (-1), .ref mk, .ref co, .int 0, .int 0, .ref se])), (nw, .inl (cN, 25240, .inl now0)), (kp, .inl (cK, 25240, .inl fk))] [(cN, .int), (cK, .int)] t) (va_A [(mo, .inr (4, [.int 0, .int 0, .null, .null, .int 0, .int 0, .null, .null, .int 0, .int 0, .null]))] sz)) 5 50816 (va_A [(mo, .inr (4, [.int 0, .int 0, .null, .null, .int 0, .int 0, .null, .null, .int 0, .int 0, .null]))] sz) := by
  refine Met.ofW (cc := cM_init) (maxL := 1) (ret := none) (by decide) rfl ?_
  intro p e s m args below meth c s₁ B hml hv
  obtain ⟨rfl, hv⟩ := hv
  have hx := B.exec
  have hb := B.bytes
  have hr := B.returns
  have hts : ∀ w ∈ aw, w.before _ s = true := fun w h => atoms_spec (ws := (.code yM_init cM_init 1 none :: aw)) B.pre w (List.mem_cons_of_mem _ h)
  have hown : s.vm.findClass RM = some m.cls := findClass_of_methodNamed B.named
  have hlocks := B.notSynchronized
  have hin : meth.name = "<init>" := (name_of_methodNamed B.named B.method).1
  obtain ⟨hsz, hP, hK, hD0⟩ := hv
  subst hsz
  have hD := hD0.self (sz := s.heap.size)
  generalize hAe : va_A [(mo, .inr (4, [.int 0, .int 0, .null, .null, .int 0, .int 0, .null, .null, .int 0, .int 0, .null]))] s.heap.size = A at hD ⊢
  have hA : ∀ q : Nat, s.heap.size ≤ q → A q := fun q h => by rw [← hAe]; exact Or.inr h
  obtain ⟨H, hH⟩ : ∃ H, H = s.heap := ⟨_, rfl⟩
  have hS : va_S A s.heap H [] := by rw [hH]; exact va_S.rf
  rw [← hH] at hP ⊢
  have hP : va_P (dC, dI) kCl [(mo, .inr (4, [.int 0, .int 0, .null, .null, .int 0, .int 0, .null, .null, .int 0, .int 0, .null]))] H := hP
  have hl := lv_entry ([.ref mo]) (n := 1) (Nat.le_of_ble_eq_true rfl)
  rw [lg_entry_eq]
  generalize (lg_sl ([.ref mo]) ++ List.replicate (1 - (lg_sl ([.ref mo])).length) Slot.unset).toArray = ls at hl ⊢
  have hl : lv_has ls 1 [(0, .ref mo)] := hl
  refine lv_aload_n (pc := 0) hx hb dM_init_0 rfl (lv_at hl 0 rfl) ?_
  refine W.objInit hx hb hown (hts _ wd_255) (hts _ wd_222) (hts _ wd_223) rfl (by rw [hml]; exact hl.1) rfl dM_init_1 (Nat.le_of_ble_eq_true rfl) (Nat.le_of_ble_eq_true rfl) ?_
  refine W.eq (g2 := F0 m 4 ls []) rfl ?_
  refine lv_aload_n (pc := 4) hx hb dM_init_4 rfl (lv_at hl 0 rfl) ?_
  refine lv_sipush (pc := 5) (v := 25240) hx hb dM_init_5 (by decide) ?_
  refine va_newa (atype := .int) (D := (dC, dI)) (cl := kCl) (pc := 8) (ty := .int) (n := 25240) (N' := 25240) (a0 := (25240, .inl (fun _ => 0))) hx hb (hts _ wd_224) rfl hK hP hD hS hA (fun cA => rfl) (by decide) (by decide) (by decide) (Nat.le_of_ble_eq_true rfl) (Nat.le_of_ble_eq_true rfl) dM_init_8 (fun q1 cA2 H hK hP hD hS => ?_)
  have hP : va_P (dC, dI) kCl [(mo, .inr (4, [.int 0, .int 0, .null, .null, .int 0, .int 0, .null, .null, .int 0, .int 0, .null])), (q1, .inl (cA2, 25240, .inl (fun _ => 0)))] H := hP
  have hD : va_D A [(mo, .inr (4, [.int 0, .int 0, .null, .null, .int 0, .int 0, .null, .null, .int 0, .int 0, .null])), (q1, .inl (cA2, 25240, .inl (fun _ => 0)))] := hD
  have hK : va_K (dC, dI) kCl [(cA2, .int)] s := hK
  refine W.widen (k := 1) (n := 25240) (Nat.le_of_ble_eq_true rfl) (Nat.le_of_ble_eq_true rfl) ?_
  refine va_putF (D := (dC, dI)) (cl := kCl) (ci := 4) (v := .ref q1) (ty := (.array .int)) (C := RM) (T := TM) (N := 11) (pc := 10) hx hb hts inM tyM tyM_ok nmM hown hK hP hD hS 0 rfl rfl 2 (by decide) (hts _ wd_158) (fun _ h9 => h9) rfl hin rfl (by decide +kernel) rfl rfl (Nat.le_of_ble_eq_true rfl) dM_init_10 (fun H locs hP hD hS => ?_)
  have hP : va_P (dC, dI) kCl [(mo, .inr (4, [.int 0, .int 0, .ref q1, .null, .int 0, .int 0, .null, .null, .int 0, .int 0, .null])), (q1, .inl (cA2, 25240, .inl (fun _ => 0)))] H := hP
  have hD : va_D A [(mo, .inr (4, [.int 0, .int 0, .ref q1, .null, .int 0, .int 0, .null, .null, .int 0, .int 0, .null])), (q1, .inl (cA2, 25240, .inl (fun _ => 0)))] := hD
  refine lv_aload_n (pc := 13) hx hb dM_init_13 rfl (lv_at hl 0 rfl) ?_
  refine lv_sipush (pc := 14) (v := 25240) hx hb dM_init_14 (by decide) ?_
  refine va_newa (atype := .int) (D := (dC, dI)) (cl := kCl) (pc := 17) (ty := .int) (n := 25240) (N' := 25240) (a0 := (25240, .inl (fun _ => 0))) hx hb (hts _ wd_224) rfl hK hP hD hS hA (fun cA => rfl) (by decide) (by decide) (by decide) (Nat.le_of_ble_eq_true rfl) (Nat.le_of_ble_eq_true rfl) dM_init_17 (fun q3 cA4 H hK hP hD hS => ?_)
  have hP : va_P (dC, dI) kCl [(mo, .inr (4, [.int 0, .int 0, .ref q1, .null, .int 0, .int 0, .null, .null, .int 0, .int 0, .null])), (q1, .inl (cA2, 25240, .inl (fun _ => 0))), (q3, .inl (cA4, 25240, .inl (fun _ => 0)))] H := hP
  have hD : va_D A [(mo, .inr (4, [.int 0, .int 0, .ref q1, .null, .int 0, .int 0, .null, .null, .int 0, .int 0, .null])), (q1, .inl (cA2, 25240, .inl (fun _ => 0))), (q3, .inl (cA4, 25240, .inl (fun _ => 0)))] := hD
  have hK : va_K (dC, dI) kCl [(cA2, .int), (cA4, .int)] s := hK
  refine W.widen (k := 2) (n := 50480) (Nat.le_of_ble_eq_true rfl) (Nat.le_of_ble_eq_true rfl) ?_
  refine va_putF (D := (dC, dI)) (cl := kCl) (ci := 4) (v := .ref q3) (ty := (.array .int)) (C := RM) (T := TM) (N := 11) (pc := 19) hx hb hts inM tyM tyM_ok nmM hown hK hP hD hS 0 rfl rfl 3 (by decide) (hts _ wd_204) (fun _ h9 => h9) rfl hin rfl (by decide +kernel) rfl rfl (Nat.le_of_ble_eq_true rfl) dM_init_19 (fun H locs hP hD hS => ?_)
  have hP : va_P (dC, dI) kCl [(mo, .inr (4, [.int 0, .int 0, .ref q1, .ref q3, .int 0, .int 0, .null, .null, .int 0, .int 0, .null])), (q1, .inl (cA2, 25240, .inl (fun _ => 0))), (q3, .inl (cA4, 25240, .inl (fun _ => 0)))] H := hP
  have hD : va_D A [(mo, .inr (4, [.int 0, .int 0, .ref q1, .ref q3, .int 0, .int 0, .null, .null, .int 0, .int 0, .null])), (q1, .inl (cA2, 25240, .inl (fun _ => 0))), (q3, .inl (cA4, 25240, .inl (fun _ => 0)))] := hD
  refine lv_aload_n (pc := 22) hx hb dM_init_22 rfl (lv_at hl 0 rfl) ?_
  refine lv_iconst (pc := 23) (v := (-1)) hx hb dM_init_23 (by decide) ?_
  refine va_put (D := (dC, dI)) (cl := kCl) (ci := 4) (v := .int (-1)) (ty := .int) (C := RM) (T := TM) (N := 11) (pc := 24) hx hb hts inM tyM tyM_ok nmM hown hK hP hD hS 0 rfl rfl 5 (by decide) (hts _ wd_203) (fun _ h9 => h9) rfl (by decide +kernel) rfl rfl (Nat.le_of_ble_eq_true rfl) dM_init_24 (fun H locs hP hD hS => ?_)
  have hP : va_P (dC, dI) kCl [(mo, .inr (4, [.int 0, .int 0, .ref q1, .ref q3, .int 0, .int (-1), .null, .null, .int 0, .int 0, .null])), (q1, .inl (cA2, 25240, .inl (fun _ => 0))), (q3, .inl (cA4, 25240, .inl (fun _ => 0)))] H := hP
  have hD : va_D A [(mo, .inr (4, [.int 0, .int 0, .ref q1, .ref q3, .int 0, .int (-1), .null, .null, .int 0, .int 0, .null])), (q1, .inl (cA2, 25240, .inl (fun _ => 0))), (q3, .inl (cA4, 25240, .inl (fun _ => 0)))] := hD
  refine lv_aload_n (pc := 27) hx hb dM_init_27 rfl (lv_at hl 0 rfl) ?_
  refine lv_bipush (pc := 28) (v := 24) hx hb dM_init_28 (by decide) ?_
  refine va_newa (atype := .boolean) (D := (dC, dI)) (cl := kCl) (pc := 30) (ty := .boolean) (n := 24) (N' := 24) (a0 := (24, .inl (fun _ => 0))) hx hb (hts _ wd_256) rfl hK hP hD hS hA (fun cA => rfl) (by decide) (by decide) (by decide) (Nat.le_of_ble_eq_true rfl) (Nat.le_of_ble_eq_true rfl) dM_init_30 (fun q5 cA6 H hK hP hD hS => ?_)
  have hP : va_P (dC, dI) kCl [(mo, .inr (4, [.int 0, .int 0, .ref q1, .ref q3, .int 0, .int (-1), .null, .null, .int 0, .int 0, .null])), (q1, .inl (cA2, 25240, .inl (fun _ => 0))), (q3, .inl (cA4, 25240, .inl (fun _ => 0))), (q5, .inl (cA6, 24, .inl (fun _ => 0)))] H := hP
  have hD : va_D A [(mo, .inr (4, [.int 0, .int 0, .ref q1, .ref q3, .int 0, .int (-1), .null, .null, .int 0, .int 0, .null])), (q1, .inl (cA2, 25240, .inl (fun _ => 0))), (q3, .inl (cA4, 25240, .inl (fun _ => 0))), (q5, .inl (cA6, 24, .inl (fun _ => 0)))] := hD
  have hK : va_K (dC, dI) kCl [(cA2, .int), (cA4, .int), (cA6, .boolean)] s := hK
  refine W.widen (k := 3) (n := 50504) (Nat.le_of_ble_eq_true rfl) (Nat.le_of_ble_eq_true rfl) ?_
  refine va_putF (D := (dC, dI)) (cl := kCl) (ci := 4) (v := .ref q5) (ty := (.array .boolean)) (C := RM) (T := TM) (N := 11) (pc := 32) hx hb hts inM tyM tyM_ok nmM hown hK hP hD hS 0 rfl rfl 6 (by decide) (hts _ wd_257) (fun _ h9 => h9) rfl hin rfl (by decide +kernel) rfl rfl (Nat.le_of_ble_eq_true rfl) dM_init_32 (fun H locs hP hD hS => ?_)
  have hP : va_P (dC, dI) kCl [(mo, .inr (4, [.int 0, .int 0, .ref q1, .ref q3, .int 0, .int (-1), .ref q5, .null, .int 0, .int 0, .null])), (q1, .inl (cA2, 25240, .inl (fun _ => 0))), (q3, .inl (cA4, 25240, .inl (fun _ => 0))), (q5, .inl (cA6, 24, .inl (fun _ => 0)))] H := hP
  have hD : va_D A [(mo, .inr (4, [.int 0, .int 0, .ref q1, .ref q3, .int 0, .int (-1), .ref q5, .null, .int 0, .int 0, .null])), (q1, .inl (cA2, 25240, .inl (fun _ => 0))), (q3, .inl (cA4, 25240, .inl (fun _ => 0))), (q5, .inl (cA6, 24, .inl (fun _ => 0)))] := hD
  refine lv_aload_n (pc := 35) hx hb dM_init_35 rfl (lv_at hl 0 rfl) ?_
  refine lv_bipush (pc := 36) (v := 24) hx hb dM_init_36 (by decide) ?_
  refine va_newa (atype := .int) (D := (dC, dI)) (cl := kCl) (pc := 38) (ty := .int) (n := 24) (N' := 24) (a0 := (24, .inl (fun _ => 0))) hx hb (hts _ wd_224) rfl hK hP hD hS hA (fun cA => rfl) (by decide) (by decide) (by decide) (Nat.le_of_ble_eq_true rfl) (Nat.le_of_ble_eq_true rfl) dM_init_38 (fun q7 cA8 H hK hP hD hS => ?_)
  have hP : va_P (dC, dI) kCl [(mo, .inr (4, [.int 0, .int 0, .ref q1, .ref q3, .int 0, .int (-1), .ref q5, .null, .int 0, .int 0, .null])), (q1, .inl (cA2, 25240, .inl (fun _ => 0))), (q3, .inl (cA4, 25240, .inl (fun _ => 0))), (q5, .inl (cA6, 24, .inl (fun _ => 0))), (q7, .inl (cA8, 24, .inl (fun _ => 0)))] H := hP
  have hD : va_D A [(mo, .inr (4, [.int 0, .int 0, .ref q1, .ref q3, .int 0, .int (-1), .ref q5, .null, .int 0, .int 0, .null])), (q1, .inl (cA2, 25240, .inl (fun _ => 0))), (q3, .inl (cA4, 25240, .inl (fun _ => 0))), (q5, .inl (cA6, 24, .inl (fun _ => 0))), (q7, .inl (cA8, 24, .inl (fun _ => 0)))] := hD
  have hK : va_K (dC, dI) kCl [(cA2, .int), (cA4, .int), (cA6, .boolean), (cA8, .int)] s := hK
  refine W.widen (k := 4) (n := 50528) (Nat.le_of_ble_eq_true rfl) (Nat.le_of_ble_eq_true rfl) ?_
  refine va_putF (D := (dC, dI)) (cl := kCl) (ci := 4) (v := .ref q7) (ty := (.array .int)) (C := RM) (T := TM) (N := 11) (pc := 40) hx hb hts inM tyM tyM_ok nmM hown hK hP hD hS 0 rfl rfl 7 (by decide) (hts _ wd_258) (fun _ h9 => h9) rfl hin rfl (by decide +kernel) rfl rfl (Nat.le_of_ble_eq_true rfl) dM_init_40 (fun H locs hP hD hS => ?_)
  have hP : va_P (dC, dI) kCl [(mo, .inr (4, [.int 0, .int 0, .ref q1, .ref q3, .int 0, .int (-1), .ref q5, .ref q7, .int 0, .int 0, .null])), (q1, .inl (cA2, 25240, .inl (fun _ => 0))), (q3, .inl (cA4, 25240, .inl (fun _ => 0))), (q5, .inl (cA6, 24, .inl (fun _ => 0))), (q7, .inl (cA8, 24, .inl (fun _ => 0)))] H := hP
  have hD : va_D A [(mo, .inr (4, [.int 0, .int 0, .ref q1, .ref q3, .int 0, .int (-1), .ref q5, .ref q7, .int 0, .int 0, .null])), (q1, .inl (cA2, 25240, .inl (fun _ => 0))), (q3, .inl (cA4, 25240, .inl (fun _ => 0))), (q5, .inl (cA6, 24, .inl (fun _ => 0))), (q7, .inl (cA8, 24, .inl (fun _ => 0)))] := hD
  refine lv_aload_n (pc := 43) hx hb dM_init_43 rfl (lv_at hl 0 rfl) ?_
  refine lv_sipush (pc := 44) (v := 288) hx hb dM_init_44 (by decide) ?_
  refine va_newa (atype := .boolean) (D := (dC, dI)) (cl := kCl) (pc := 47) (ty := .boolean) (n := 288) (N' := 288) (a0 := (288, .inl (fun _ => 0))) hx hb (hts _ wd_256) rfl hK hP hD hS hA (fun cA => rfl) (by decide) (by decide) (by decide) (Nat.le_of_ble_eq_true rfl) (Nat.le_of_ble_eq_true rfl) dM_init_47 (fun q9 cA10 H hK hP hD hS => ?_)
  have hP : va_P (dC, dI) kCl [(mo, .inr (4, [.int 0, .int 0, .ref q1, .ref q3, .int 0, .int (-1), .ref q5, .ref q7, .int 0, .int 0, .null])), (q1, .inl (cA2, 25240, .inl (fun _ => 0))), (q3, .inl (cA4, 25240, .inl (fun _ => 0))), (q5, .inl (cA6, 24, .inl (fun _ => 0))), (q7, .inl (cA8, 24, .inl (fun _ => 0))), (q9, .inl (cA10, 288, .inl (fun _ => 0)))] H := hP
  have hD : va_D A [(mo, .inr (4, [.int 0, .int 0, .ref q1, .ref q3, .int 0, .int (-1), .ref q5, .ref q7, .int 0, .int 0, .null])), (q1, .inl (cA2, 25240, .inl (fun _ => 0))), (q3, .inl (cA4, 25240, .inl (fun _ => 0))), (q5, .inl (cA6, 24, .inl (fun _ => 0))), (q7, .inl (cA8, 24, .inl (fun _ => 0))), (q9, .inl (cA10, 288, .inl (fun _ => 0)))] := hD
  have hK : va_K (dC, dI) kCl [(cA2, .int), (cA4, .int), (cA6, .boolean), (cA8, .int), (cA10, .boolean)] s := hK
  refine W.widen (k := 5) (n := 50816) (Nat.le_of_ble_eq_true rfl) (Nat.le_of_ble_eq_true rfl) ?_
  refine va_putF (D := (dC, dI)) (cl := kCl) (ci := 4) (v := .ref q9) (ty := (.array .boolean)) (C := RM) (T := TM) (N := 11) (pc := 49) hx hb hts inM tyM tyM_ok nmM hown hK hP hD hS 0 rfl rfl 10 (by decide) (hts _ wd_259) (fun _ h9 => h9) rfl hin rfl (by decide +kernel) rfl rfl (Nat.le_of_ble_eq_true rfl) dM_init_49 (fun H locs hP hD hS => ?_)
  have hP : va_P (dC, dI) kCl [(mo, .inr (4, [.int 0, .int 0, .ref q1, .ref q3, .int 0, .int (-1), .ref q5, .ref q7, .int 0, .int 0, .ref q9])), (q1, .inl (cA2, 25240, .inl (fun _ => 0))), (q3, .inl (cA4, 25240, .inl (fun _ => 0))), (q5, .inl (cA6, 24, .inl (fun _ => 0))), (q7, .inl (cA8, 24, .inl (fun _ => 0))), (q9, .inl (cA10, 288, .inl (fun _ => 0)))] H := hP
  have hD : va_D A [(mo, .inr (4, [.int 0, .int 0, .ref q1, .ref q3, .int 0, .int (-1), .ref q5, .ref q7, .int 0, .int 0, .ref q9])), (q1, .inl (cA2, 25240, .inl (fun _ => 0))), (q3, .inl (cA4, 25240, .inl (fun _ => 0))), (q5, .inl (cA6, 24, .inl (fun _ => 0))), (q7, .inl (cA8, 24, .inl (fun _ => 0))), (q9, .inl (cA10, 288, .inl (fun _ => 0)))] := hD
  refine lv_aload_n (pc := 52) hx hb dM_init_52 rfl (lv_at hl 0 rfl) ?_
  refine va_get (D := (dC, dI)) (cl := kCl) (C := RM) (T := TM) (N := 11) (pc := 53) hx hb hts inM hown hK hP 0 rfl rfl 2 (by decide) (hts _ wd_158) (fun _ h9 => h9) rfl dM_init_53 ?_
  refine lv_bipush (pc := 56) (v := 17) hx hb dM_init_56 (by decide) ?_
  refine lv_sipush (pc := 58) (v := 400) hx hb dM_init_58 (by decide) ?_
  refine va_iast (D := (dC, dI)) (cl := kCl) (pc := 61) hx hb hK hP hD hS 1 0 rfl rfl (vp_in_lit 17 25240 (by decide)) dM_init_61 (fun H locs hP hD hS => ?_)
  have hP : va_P (dC, dI) kCl [(mo, .inr (4, [.int 0, .int 0, .ref q1, .ref q3, .int 0, .int (-1), .ref q5, .ref q7, .int 0, .int 0, .ref q9])), (q1, .inl (cA2, 25240, .inl (upd (fun _ => 0) (17 : Int32).toNatClampNeg 400))), (q3, .inl (cA4, 25240, .inl (fun _ => 0))), (q5, .inl (cA6, 24, .inl (fun _ => 0))), (q7, .inl (cA8, 24, .inl (fun _ => 0))), (q9, .inl (cA10, 288, .inl (fun _ => 0)))] H := hP
  have hD : va_D A [(mo, .inr (4, [.int 0, .int 0, .ref q1, .ref q3, .int 0, .int (-1), .ref q5, .ref q7, .int 0, .int 0, .ref q9])), (q1, .inl (cA2, 25240, .inl (upd (fun _ => 0) (17 : Int32).toNatClampNeg 400))), (q3, .inl (cA4, 25240, .inl (fun _ => 0))), (q5, .inl (cA6, 24, .inl (fun _ => 0))), (q7, .inl (cA8, 24, .inl (fun _ => 0))), (q9, .inl (cA10, 288, .inl (fun _ => 0)))] := hD
  refine lv_aload_n (pc := 62) hx hb dM_init_62 rfl (lv_at hl 0 rfl) ?_
  have hPc := hP.sub (ws' := [(mo, .inr (4, [.int 0, .int 0, .ref q1, .ref q3, .int 0, .int (-1), .ref q5, .ref q7, .int 0, .int 0, .ref q9])), (q1, .inl (cA2, 25240, .inl (upd (fun _ => 0) (17 : Int32).toNatClampNeg 400))), (q3, .inl (cA4, 25240, .inl (fun _ => 0)))]) [0, 1, 2] rfl
  have hDc := hD.sub (ws' := [(mo, .inr (4, [.int 0, .int 0, .ref q1, .ref q3, .int 0, .int (-1), .ref q5, .ref q7, .int 0, .int 0, .ref q9])), (q1, .inl (cA2, 25240, .inl (upd (fun _ => 0) (17 : Int32).toNatClampNeg 400))), (q3, .inl (cA4, 25240, .inl (fun _ => 0)))]) [0, 1, 2] (by decide) rfl
  have hKc := hK.sub (tys' := [(cA2, .int), (cA4, .int)]) [0, 1] rfl
  have hFc := va_free (wc := [(mo, .inr (4, [.int 0, .int 0, .ref q1, .ref q3, .int 0, .int (-1), .ref q5, .ref q7, .int 0, .int 0, .ref q9])), (q1, .inl (cA2, 25240, .inl (upd (fun _ => 0) (17 : Int32).toNatClampNeg 400))), (q3, .inl (cA4, 25240, .inl (fun _ => 0)))]) hD hS hA [0, 1, 2] rfl
  refine va_callv (pc := 63) (va_runV (As := []) (rest := []) ⟨hx, hb, hml, hown, hts⟩ (m_keep l dC dI H.size mo q1 q3 q5 q7 q9 0 0 cA2 (upd (fun _ => 0) (17 : Int32).toNatClampNeg 400) cA4 (fun _ => 0)) (cwV 0 hts (gV wd_206 wd_207 wd_208 wd_157 wd_205) rfl rfl rfl (by decide +kernel) ⟨Nat.le_of_ble_eq_true rfl, Nat.le_of_ble_eq_true rfl⟩) ⟨pW_blind, va_recv (q := (RM, TM, 11)) (q0 := 0) (ci := 4) hK hP rfl rfl, pW_pre hPc hKc hDc⟩ rfl rfl hl.1 rfl (lv_room (Nat.le_of_ble_eq_true rfl)) dM_init_63 ⟨Nat.le_of_ble_eq_true rfl, Nat.le_of_ble_eq_true rfl⟩) hS (fun q _ h => hFc q h) hFc (fun u13 t H1 locs ht hvm hr12 hB hz1 hk1 hS => ?_)
  obtain ⟨hP1, hK1, hD1⟩ := hB
  rw [ht] at hP1
  have hK1 := va_K.moved hvm.symm hK1
  obtain ⟨hP, hD⟩ := va_join (wr := [(q5, .inl (cA6, 24, .inl (fun _ => 0))), (q7, .inl (cA8, 24, .inl (fun _ => 0))), (q9, .inl (cA10, 288, .inl (fun _ => 0)))]) (w1 := [(mo, .inr (4, [.int 0, .int 0, .ref q1, .ref q3, .int 0, .int (-1), .ref q5, .ref q7, .int 0, .int 0, .ref q9])), (q1, .inl (cA2, 25240, .inl (upd (fun _ => 0) (17 : Int32).toNatClampNeg 400))), (q3, .inl (cA4, 25240, .inl u13))]) hP hD [0, 1, 2] [3, 4, 5] rfl rfl (by decide) (by decide) hk1 hFc hP1 hD1
  generalize H1 = H at hP hS ⊢
  have hP : va_P (dC, dI) kCl [(q5, .inl (cA6, 24, .inl (fun _ => 0))), (q7, .inl (cA8, 24, .inl (fun _ => 0))), (q9, .inl (cA10, 288, .inl (fun _ => 0))), (mo, .inr (4, [.int 0, .int 0, .ref q1, .ref q3, .int 0, .int (-1), .ref q5, .ref q7, .int 0, .int 0, .ref q9])), (q1, .inl (cA2, 25240, .inl (upd (fun _ => 0) (17 : Int32).toNatClampNeg 400))), (q3, .inl (cA4, 25240, .inl u13))] H := hP
  have hD : va_D A [(q5, .inl (cA6, 24, .inl (fun _ => 0))), (q7, .inl (cA8, 24, .inl (fun _ => 0))), (q9, .inl (cA10, 288, .inl (fun _ => 0))), (mo, .inr (4, [.int 0, .int 0, .ref q1, .ref q3, .int 0, .int (-1), .ref q5, .ref q7, .int 0, .int 0, .ref q9])), (q1, .inl (cA2, 25240, .inl (upd (fun _ => 0) (17 : Int32).toNatClampNeg 400))), (q3, .inl (cA4, 25240, .inl u13))] := hD
  refine W.widen (k := 5) (n := 50816) (Nat.le_of_ble_eq_true rfl) (Nat.le_of_ble_eq_true rfl) ?_
  have h15 : u13 16 = (upd (fun _ => 0) (17 : Int32).toNatClampNeg 400) 16 := hr12
  have hP9 := hP.sub (ws' := [(mo, .inr (4, [.int 0, .int 0, .ref q1, .ref q3, .int 0, .int (-1), .ref q5, .ref q7, .int 0, .int 0, .ref q9])), (q1, .inl (cA2, 25240, .inl now0)), (q3, .inl (cA4, 25240, .inl u13))]) [3, 4, 5] rfl
  have hD9 := hD.sub (ws' := [(mo, .inr (4, [.int 0, .int 0, .ref q1, .ref q3, .int 0, .int (-1), .ref q5, .ref q7, .int 0, .int 0, .ref q9])), (q1, .inl (cA2, 25240, .inl now0)), (q3, .inl (cA4, 25240, .inl u13))]) [3, 4, 5] (by decide) rfl
  have hK9 := hK.sub (tys' := [(cA2, .int), (cA4, .int)]) [0, 1] rfl
  exact W.vret (pc := 66) hx hb hr (fun t ht hW => ⟨⟨(), rfl, trivial, q1, q3, q5, q7, q9, cA2, cA4, u13, h15, by rw [ht]; exact hP9, va_K.moved hW.alike hK9, hD9⟩, hS.F ht⟩) hS.2.2 dM_init_66
set_option maxHeartbeats 4000000 in
set_option maxRecDepth 100000 in
theorem b_clear (l : Launch) (dC : Nat → ClassId) (dI : Nat → Nat → Nat) (sz : Nat) (df : Nat) (dv : Nat) (do9 : Nat) (cF : ClassId) (fv : Nat → Int32) : Met l yB_clear (.code yB_clear cB_clear 1 none :: aw) ({ frames := 1, cells := 0, slots := 0, locals := 23 }) (pW (dC, dI) sz [(df, .inr (1, [.ref dv, .ref do9, .int 0])), (dv, .inl (cF, 24, .inl fv))] [(cF, .int)] [.ref df]) (va_Qv (fun (u9 : Nat → Int32) => True) (fun u9 t => wW (dC, dI) (va_A [(df, .inr (1, [.ref dv, .ref do9, .int 0])), (dv, .inl (cF, 24, .inl fv))] sz) [(df, .inr (1, [.ref dv, .ref do9, .int 0])), (dv, .inl (cF, 24, .inl u9))] [(cF, .int)] t) (va_A [(df, .inr (1, [.ref dv, .ref do9, .int 0])), (dv, .inl (cF, 24, .inl fv))] sz)) 0 0 (va_A [(df, .inr (1, [.ref dv, .ref do9, .int 0])), (dv, .inl (cF, 24, .inl fv))] sz) := by
  refine Met.ofW (cc := cB_clear) (maxL := 1) (ret := none) (by decide) rfl ?_
  intro p e s m args below meth c s₁ B hml hv
  obtain ⟨rfl, hv⟩ := hv
  have hx := B.exec
  have hb := B.bytes
  have hr := B.returns
  have hts : ∀ w ∈ aw, w.before _ s = true := fun w h => atoms_spec (ws := (.code yB_clear cB_clear 1 none :: aw)) B.pre w (List.mem_cons_of_mem _ h)
  have hown : s.vm.findClass RB = some m.cls := findClass_of_methodNamed B.named
  have hlocks := B.notSynchronized
  obtain ⟨hsz, hP, hK, hD0⟩ := hv
  subst hsz
  have hD := hD0.self (sz := s.heap.size)
  generalize hAe : va_A [(df, .inr (1, [.ref dv, .ref do9, .int 0])), (dv, .inl (cF, 24, .inl fv))] s.heap.size = A at hD ⊢
  have hA : ∀ q : Nat, s.heap.size ≤ q → A q := fun q h => by rw [← hAe]; exact Or.inr h
  obtain ⟨H, hH⟩ : ∃ H, H = s.heap := ⟨_, rfl⟩
  have hS : va_S A s.heap H [] := by rw [hH]; exact va_S.rf
  rw [← hH] at hP ⊢
  have hP : va_P (dC, dI) kCl [(df, .inr (1, [.ref dv, .ref do9, .int 0])), (dv, .inl (cF, 24, .inl fv))] H := hP
  have hl := lv_entry ([.ref df]) (n := 1) (Nat.le_of_ble_eq_true rfl)
  rw [lg_entry_eq]
  generalize (lg_sl ([.ref df]) ++ List.replicate (1 - (lg_sl ([.ref df])).length) Slot.unset).toArray = ls at hl ⊢
  have hl : lv_has ls 1 [(0, .ref df)] := hl
  refine lv_aload_n (pc := 0) hx hb dB_clear_0 rfl (lv_at hl 0 rfl) ?_
  refine va_get (D := (dC, dI)) (cl := kCl) (C := RB) (T := TB) (N := 3) (pc := 1) hx hb hts inB hown hK hP 0 rfl rfl 0 (by decide) (hts _ wd_225) (fun _ h9 => h9) rfl dB_clear_1 ?_
  refine lv_iconst (pc := 4) (v := (-1)) hx hb dB_clear_4 (by decide) ?_
  have hPc := hP.sub (ws' := [(dv, .inl (cF, 24, .inl fv))]) [1] rfl
  have hDc := hD.sub (ws' := [(dv, .inl (cF, 24, .inl fv))]) [1] (by decide) rfl
  have hKc := hK.sub (tys' := [(cF, .int)]) [0] rfl
  have hFc := va_free (wc := [(dv, .inl (cF, 24, .inl fv))]) hD hS hA [1] rfl
  refine va_callv (pc := 5) (va_runS (As := [.ref dv, .int (-1)]) (rest := []) ⟨hx, hb, hml, hown, hts⟩ (a_fill l dC dI H.size dv cF fv (-1)) (va_cwS 2 hts (gSU wd_228 wd_229 wd_230 wd_227) rfl rfl rfl (by decide +kernel) ⟨Nat.le_of_ble_eq_true rfl, Nat.le_of_ble_eq_true rfl⟩) ⟨pW_blind, pW_pre hPc hKc hDc⟩ rfl rfl hl.1 rfl (lv_room (Nat.le_of_ble_eq_true rfl)) dB_clear_5 ⟨Nat.le_of_ble_eq_true rfl, Nat.le_of_ble_eq_true rfl⟩) hS (fun q _ h => hFc q h) hFc (fun u3 t H1 locs ht hvm hr2 hB hz1 hk1 hS => ?_)
  obtain ⟨hP1, hK1, hD1⟩ := hB
  rw [ht] at hP1
  have hK1 := va_K.moved hvm.symm hK1
  obtain ⟨hP, hD⟩ := va_join (wr := [(df, .inr (1, [.ref dv, .ref do9, .int 0]))]) (w1 := [(dv, .inl (cF, 24, .inl u3))]) hP hD [1] [0] rfl rfl (by decide) (by decide) hk1 hFc hP1 hD1
  generalize H1 = H at hP hS ⊢
  have hP : va_P (dC, dI) kCl [(df, .inr (1, [.ref dv, .ref do9, .int 0])), (dv, .inl (cF, 24, .inl u3))] H := hP
  have hD : va_D A [(df, .inr (1, [.ref dv, .ref do9, .int 0])), (dv, .inl (cF, 24, .inl u3))] := hD
  refine W.widen (k := 0) (n := 0) (Nat.le_of_ble_eq_true rfl) (Nat.le_of_ble_eq_true rfl) ?_
  refine lv_aload_n (pc := 8) hx hb dB_clear_8 rfl (lv_at hl 0 rfl) ?_
  refine lv_iconst (pc := 9) (v := 0) hx hb dB_clear_9 (by decide) ?_
  refine va_put (D := (dC, dI)) (cl := kCl) (ci := 1) (v := .int 0) (ty := .int) (C := RB) (T := TB) (N := 3) (pc := 10) hx hb hts inB tyB tyB_ok nmB hown hK hP hD hS 0 rfl rfl 2 (by decide) (hts _ wd_260) (fun _ h9 => h9) rfl (by decide +kernel) rfl rfl (Nat.le_of_ble_eq_true rfl) dB_clear_10 (fun H locs hP hD hS => ?_)
  have hP : va_P (dC, dI) kCl [(df, .inr (1, [.ref dv, .ref do9, .int 0])), (dv, .inl (cF, 24, .inl u3))] H := hP
  have hD : va_D A [(df, .inr (1, [.ref dv, .ref do9, .int 0])), (dv, .inl (cF, 24, .inl u3))] := hD
  have hP9 := hP.sub (ws' := [(df, .inr (1, [.ref dv, .ref do9, .int 0])), (dv, .inl (cF, 24, .inl u3))]) [0, 1] rfl
  have hD9 := hD.sub (ws' := [(df, .inr (1, [.ref dv, .ref do9, .int 0])), (dv, .inl (cF, 24, .inl u3))]) [0, 1] (by decide) rfl
  have hK9 := hK.sub (tys' := [(cF, .int)]) [0] rfl
  exact W.vret (pc := 13) hx hb hr (fun t ht hW => ⟨⟨u3, rfl, trivial, by rw [ht]; exact hP9, va_K.moved hW.alike hK9, hD9⟩, hS.F ht⟩) hS.2.2 dB_clear_13
set_option maxHeartbeats 4000000 in
set_option maxRecDepth 100000 in
theorem b_pagesTaken (l : Launch) (dC : Nat → ClassId) (dI : Nat → Nat → Nat) (df : Nat) (dv : Nat) (do9 : Nat) : Met l yB_pagesTaken (.code yB_pagesTaken cB_pagesTaken 1 (some .int) :: aw) ({ frames := 0, cells := 0, slots := 0, locals := 0 }) (pR (dC, dI) [(df, .inr (1, [.ref dv, .ref do9, .int 0]))] [] [.ref df]) (vp_Si (fun r => r = 1)) 0 0 (fun _ => False) := by
  refine Met.ofW (cc := cB_pagesTaken) (maxL := 1) (ret := (some .int)) (by decide) rfl ?_
  intro p e s m args below meth c s₁ B hml hv
  obtain ⟨rfl, hv⟩ := hv
  have hx := B.exec
  have hb := B.bytes
  have hr := B.returns
  have hts : ∀ w ∈ aw, w.before _ s = true := fun w h => atoms_spec (ws := (.code yB_pagesTaken cB_pagesTaken 1 (some .int) :: aw)) B.pre w (List.mem_cons_of_mem _ h)
  have hown : s.vm.findClass RB = some m.cls := findClass_of_methodNamed B.named
  have hlocks := B.notSynchronized
  obtain ⟨hP, hK⟩ := hv
  obtain ⟨H, hH⟩ : ∃ H, H = s.heap := ⟨_, rfl⟩
  rw [← hH] at hP ⊢
  have hl := lv_entry ([.ref df]) (n := 1) (Nat.le_of_ble_eq_true rfl)
  rw [lg_entry_eq]
  generalize (lg_sl ([.ref df]) ++ List.replicate (1 - (lg_sl ([.ref df])).length) Slot.unset).toArray = ls at hl ⊢
  have hl : lv_has ls 1 [(0, .ref df)] := hl
  refine lv_iconst (pc := 0) (v := 1) hx hb dB_pagesTaken_0 (by decide) ?_
  refine lv_aload_n (pc := 1) hx hb dB_pagesTaken_1 rfl (lv_at hl 0 rfl) ?_
  refine va_get (D := (dC, dI)) (cl := kCl) (C := RB) (T := TB) (N := 3) (pc := 2) hx hb hts inB hown hK hP 0 rfl rfl 2 (by decide) (hts _ wd_260) (fun _ h9 => h9) rfl dB_pagesTaken_2 ?_
  refine lv_bipush (pc := 5) (v := 8) hx hb dB_pagesTaken_5 (by decide) ?_
  refine lv_iadd (pc := 7) hx hb dB_pagesTaken_7 ?_
  refine lv_topi (fun z1 hz2 => ?_)
  obtain rfl : z1 = 8 := hz2.trans (by decide)
  refine lv_iconst (pc := 8) (v := 1) hx hb dB_pagesTaken_8 (by decide) ?_
  refine lv_isub (pc := 9) hx hb dB_pagesTaken_9 ?_
  refine lv_topi (fun z3 hz4 => ?_)
  obtain rfl : z3 = 7 := hz4.trans (by decide)
  refine lv_bipush (pc := 10) (v := 8) hx hb dB_pagesTaken_10 (by decide) ?_
  refine lv_idiv (pc := 12) hx hb dB_pagesTaken_12 (by decide) ?_
  refine lv_topi (fun z5 hz6 => ?_)
  obtain rfl : z5 = 0 := hz6.trans (by decide)
  refine lv_iadd (pc := 13) hx hb dB_pagesTaken_13 ?_
  refine lv_topi (fun z7 hz8 => ?_)
  obtain rfl : z7 = 1 := hz8.trans (by decide)
  exact W.iret (pc := 14) hx hb hr (fun t ht hW => ⟨_, rfl, rfl, ht.trans hH⟩) (fun q h => nomatch h) dB_pagesTaken_14
set_option maxHeartbeats 4000000 in
set_option maxRecDepth 100000 in
theorem v_baselineRefusal (l : Launch) (dC : Nat → ClassId) (dI : Nat → Nat → Nat) (sz : Nat) (x : Nat) (rt : Nat) (dr : Nat) (bs : Nat) (df : Nat) (ch : Nat) (pg : Nat) (rs : Int32) (cB : ClassId) (dv : Nat) (do9 : Nat) (cF : ClassId) (fv : Nat → Int32) (nn : Int32) (dd : Int32) : Met l yV_baselineRefusal (.code yV_baselineRefusal cV_baselineRefusal 5 (some .int) :: aw) ({ frames := 2, cells := 0, slots := 0, locals := 43 }) (pW (dC, dI) sz [(x, .inr (0, [.ref rt, .ref dr, .int 0, .int 0, .ref bs, .ref df, .ref ch, .ref pg, .int rs])), (bs, .inl (cB, 10, .inr (.inr (.inr (.inr (fun _ => none)))))), (df, .inr (1, [.ref dv, .ref do9, .int 0])), (dv, .inl (cF, 24, .inl fv))] [(cB, .object "DrawingVault$Baseline"), (cF, .int)] [.ref x, .int nn, .int dd]) (va_Qi (fun r (u9 : Nat → Int32) => r = 7) (fun u9 t => wW (dC, dI) (va_A [(x, .inr (0, [.ref rt, .ref dr, .int 0, .int 0, .ref bs, .ref df, .ref ch, .ref pg, .int rs])), (bs, .inl (cB, 10, .inr (.inr (.inr (.inr (fun _ => none)))))), (df, .inr (1, [.ref dv, .ref do9, .int 0])), (dv, .inl (cF, 24, .inl fv))] sz) [(x, .inr (0, [.ref rt, .ref dr, .int 0, .int 0, .ref bs, .ref df, .ref ch, .ref pg, .int rs])), (bs, .inl (cB, 10, .inr (.inr (.inr (.inr (fun _ => none)))))), (df, .inr (1, [.ref dv, .ref do9, .int 0])), (dv, .inl (cF, 24, .inl u9))] [] t) (va_A [(x, .inr (0, [.ref rt, .ref dr, .int 0, .int 0, .ref bs, .ref df, .ref ch, .ref pg, .int rs])), (bs, .inl (cB, 10, .inr (.inr (.inr (.inr (fun _ => none)))))), (df, .inr (1, [.ref dv, .ref do9, .int 0])), (dv, .inl (cF, 24, .inl fv))] sz)) 0 0 (va_A [(x, .inr (0, [.ref rt, .ref dr, .int 0, .int 0, .ref bs, .ref df, .ref ch, .ref pg, .int rs])), (bs, .inl (cB, 10, .inr (.inr (.inr (.inr (fun _ => none)))))), (df, .inr (1, [.ref dv, .ref do9, .int 0])), (dv, .inl (cF, 24, .inl fv))] sz) := by
  refine Met.ofW (cc := cV_baselineRefusal) (maxL := 5) (ret := (some .int)) (by decide) rfl ?_
  intro p e s m args below meth c s₁ B hml hv
  obtain ⟨rfl, hv⟩ := hv
  have hx := B.exec
  have hb := B.bytes
  have hr := B.returns
  have hts : ∀ w ∈ aw, w.before _ s = true := fun w h => atoms_spec (ws := (.code yV_baselineRefusal cV_baselineRefusal 5 (some .int) :: aw)) B.pre w (List.mem_cons_of_mem _ h)
  have hown : s.vm.findClass RV = some m.cls := findClass_of_methodNamed B.named
  have hlocks := B.notSynchronized
  obtain ⟨hsz, hP, hK, hD0⟩ := hv
  subst hsz
  have hD := hD0.self (sz := s.heap.size)
  generalize hAe : va_A [(x, .inr (0, [.ref rt, .ref dr, .int 0, .int 0, .ref bs, .ref df, .ref ch, .ref pg, .int rs])), (bs, .inl (cB, 10, .inr (.inr (.inr (.inr (fun _ => none)))))), (df, .inr (1, [.ref dv, .ref do9, .int 0])), (dv, .inl (cF, 24, .inl fv))] s.heap.size = A at hD ⊢
  have hA : ∀ q : Nat, s.heap.size ≤ q → A q := fun q h => by rw [← hAe]; exact Or.inr h
  obtain ⟨H, hH⟩ : ∃ H, H = s.heap := ⟨_, rfl⟩
  have hS : va_S A s.heap H [] := by rw [hH]; exact va_S.rf
  rw [← hH] at hP ⊢
  have hP : va_P (dC, dI) kCl [(x, .inr (0, [.ref rt, .ref dr, .int 0, .int 0, .ref bs, .ref df, .ref ch, .ref pg, .int rs])), (bs, .inl (cB, 10, .inr (.inr (.inr (.inr (fun _ => none)))))), (df, .inr (1, [.ref dv, .ref do9, .int 0])), (dv, .inl (cF, 24, .inl fv))] H := hP
  have hl := lv_entry ([.ref x, .int nn, .int dd]) (n := 5) (Nat.le_of_ble_eq_true rfl)
  rw [lg_entry_eq]
  generalize (lg_sl ([.ref x, .int nn, .int dd]) ++ List.replicate (5 - (lg_sl ([.ref x, .int nn, .int dd])).length) Slot.unset).toArray = ls at hl ⊢
  have hl : lv_has ls 5 [(0, .ref x), (1, .int nn), (2, .int dd)] := hl
  refine lv_aload_n (pc := 0) hx hb dV_baselineRefusal_0 rfl (lv_at hl 0 rfl) ?_
  refine lv_iload_n (pc := 1) hx hb dV_baselineRefusal_1 rfl (lv_at hl 2 rfl) ?_
  refine va_csq (pc := 2) (W.runV (As := [.int dd]) (rest := []) ⟨hx, hb, hml, hown, hts⟩ (v_drawingAt l dC dI x rt dr bs df ch pg rs dd) (cwV 1 hts (gV wd_41 wd_42 wd_43 wd_35 wd_40) rfl rfl rfl (by decide +kernel) ⟨Nat.le_of_ble_eq_true rfl, Nat.le_of_ble_eq_true rfl⟩) ⟨pR_blind, va_recv (q := (RV, TV, 9)) (q0 := 0) (ci := 0) hK hP rfl rfl, pR_pre (hP.sub (ws' := [(x, .inr (0, [.ref rt, .ref dr, .int 0, .int 0, .ref bs, .ref df, .ref ch, .ref pg, .int rs]))]) [0] rfl) (hK.sub (tys' := []) [] rfl)⟩ rfl rfl hl.1 rfl (lv_room (Nat.le_of_ble_eq_true rfl)) dV_baselineRefusal_2 ⟨Nat.le_of_ble_eq_true rfl, Nat.le_of_ble_eq_true rfl⟩) (fun r1 hr2 => ?_)
  obtain rfl : r1 = none := hr2
  refine W.eq (g2 := F0 m 5 ls [.null]) rfl ?_
  refine lv_astore_nN (pc := 5) hx hb dV_baselineRefusal_5 rfl hl (by decide) rfl (fun ls hl => ?_)
  have hl : lv_has ls 5 [(3, .null), (0, .ref x), (1, .int nn), (2, .int dd)] := hl
  refine lv_aload_n (pc := 6) hx hb dV_baselineRefusal_6 rfl (lv_at hl 1 rfl) ?_
  refine va_get (D := (dC, dI)) (cl := kCl) (C := RV) (T := TV) (N := 9) (pc := 7) hx hb hts inV hown hK hP 0 rfl rfl 5 (by decide) (hts _ wd_246) (fun _ h9 => h9) rfl dV_baselineRefusal_7 ?_
  have hPc := hP.sub (ws' := [(df, .inr (1, [.ref dv, .ref do9, .int 0])), (dv, .inl (cF, 24, .inl fv))]) [2, 3] rfl
  have hDc := hD.sub (ws' := [(df, .inr (1, [.ref dv, .ref do9, .int 0])), (dv, .inl (cF, 24, .inl fv))]) [2, 3] (by decide) rfl
  have hKc := hK.sub (tys' := [(cF, .int)]) [1] rfl
  have hFc := va_free (wc := [(df, .inr (1, [.ref dv, .ref do9, .int 0])), (dv, .inl (cF, 24, .inl fv))]) hD hS hA [2, 3] rfl
  refine va_callv (pc := 10) (va_runV (As := []) (rest := []) ⟨hx, hb, hml, hown, hts⟩ (b_clear l dC dI H.size df dv do9 cF fv) (cwV 0 hts (gV wd_262 wd_263 wd_264 wd_242 wd_261) rfl rfl rfl (by decide +kernel) ⟨Nat.le_of_ble_eq_true rfl, Nat.le_of_ble_eq_true rfl⟩) ⟨pW_blind, va_recv (q := (RB, TB, 3)) (q0 := 2) (ci := 1) hK hP rfl rfl, pW_pre hPc hKc hDc⟩ rfl rfl hl.1 rfl (lv_room (Nat.le_of_ble_eq_true rfl)) dV_baselineRefusal_10 ⟨Nat.le_of_ble_eq_true rfl, Nat.le_of_ble_eq_true rfl⟩) hS (fun q _ h => hFc q h) hFc (fun u5 t H1 locs ht hvm hr4 hB hz1 hk1 hS => ?_)
  obtain ⟨hP1, hK1, hD1⟩ := hB
  rw [ht] at hP1
  have hK1 := va_K.moved hvm.symm hK1
  obtain ⟨hP, hD⟩ := va_join (wr := [(x, .inr (0, [.ref rt, .ref dr, .int 0, .int 0, .ref bs, .ref df, .ref ch, .ref pg, .int rs])), (bs, .inl (cB, 10, .inr (.inr (.inr (.inr (fun _ => none))))))]) (w1 := [(df, .inr (1, [.ref dv, .ref do9, .int 0])), (dv, .inl (cF, 24, .inl u5))]) hP hD [2, 3] [0, 1] rfl rfl (by decide) (by decide) hk1 hFc hP1 hD1
  generalize H1 = H at hP hS ⊢
  have hP : va_P (dC, dI) kCl [(x, .inr (0, [.ref rt, .ref dr, .int 0, .int 0, .ref bs, .ref df, .ref ch, .ref pg, .int rs])), (bs, .inl (cB, 10, .inr (.inr (.inr (.inr (fun _ => none)))))), (df, .inr (1, [.ref dv, .ref do9, .int 0])), (dv, .inl (cF, 24, .inl u5))] H := hP
  have hD : va_D A [(x, .inr (0, [.ref rt, .ref dr, .int 0, .int 0, .ref bs, .ref df, .ref ch, .ref pg, .int rs])), (bs, .inl (cB, 10, .inr (.inr (.inr (.inr (fun _ => none)))))), (df, .inr (1, [.ref dv, .ref do9, .int 0])), (dv, .inl (cF, 24, .inl u5))] := hD
  refine W.widen (k := 0) (n := 0) (Nat.le_of_ble_eq_true rfl) (Nat.le_of_ble_eq_true rfl) ?_
  refine lv_aload_n (pc := 13) hx hb dV_baselineRefusal_13 rfl (lv_at hl 1 rfl) ?_
  refine lv_iload_n (pc := 14) hx hb dV_baselineRefusal_14 rfl (lv_at hl 2 rfl) ?_
  refine va_csq (pc := 15) (W.runV (As := [.int nn]) (rest := []) ⟨hx, hb, hml, hown, hts⟩ (v_baselineAt l dC dI x rt dr bs df ch pg rs cB nn) (cwV 1 hts (gV wd_266 wd_267 wd_268 wd_35 wd_265) rfl rfl rfl (by decide +kernel) ⟨Nat.le_of_ble_eq_true rfl, Nat.le_of_ble_eq_true rfl⟩) ⟨pR_blind, va_recv (q := (RV, TV, 9)) (q0 := 0) (ci := 0) hK hP rfl rfl, pR_pre (hP.sub (ws' := [(x, .inr (0, [.ref rt, .ref dr, .int 0, .int 0, .ref bs, .ref df, .ref ch, .ref pg, .int rs])), (bs, .inl (cB, 10, .inr (.inr (.inr (.inr (fun _ => none))))))]) [0, 1] rfl) (hK.sub (tys' := [(cB, .object "DrawingVault$Baseline")]) [0] rfl)⟩ rfl rfl hl.1 rfl (lv_room (Nat.le_of_ble_eq_true rfl)) dV_baselineRefusal_15 ⟨Nat.le_of_ble_eq_true rfl, Nat.le_of_ble_eq_true rfl⟩) (fun r7 hr8 => ?_)
  obtain rfl : r7 = none := hr8
  refine W.eq (g2 := F0 m 18 ls [.null]) rfl ?_
  refine lv_ifnullN (pc := 18) (tgt := 23) hx hb dV_baselineRefusal_18 rfl ?_
  refine lv_aload_nN (pc := 23) hx hb dV_baselineRefusal_23 rfl (lv_at hl 0 rfl) ?_
  refine lv_ifnonnullN (pc := 24) hx hb dV_baselineRefusal_24 ?_
  refine lv_bipush (pc := 27) (v := 7) hx hb dV_baselineRefusal_27 (by decide) ?_
  have hP9 := hP.sub (ws' := [(x, .inr (0, [.ref rt, .ref dr, .int 0, .int 0, .ref bs, .ref df, .ref ch, .ref pg, .int rs])), (bs, .inl (cB, 10, .inr (.inr (.inr (.inr (fun _ => none)))))), (df, .inr (1, [.ref dv, .ref do9, .int 0])), (dv, .inl (cF, 24, .inl u5))]) [0, 1, 2, 3] rfl
  have hD9 := hD.sub (ws' := [(x, .inr (0, [.ref rt, .ref dr, .int 0, .int 0, .ref bs, .ref df, .ref ch, .ref pg, .int rs])), (bs, .inl (cB, 10, .inr (.inr (.inr (.inr (fun _ => none)))))), (df, .inr (1, [.ref dv, .ref do9, .int 0])), (dv, .inl (cF, 24, .inl u5))]) [0, 1, 2, 3] (by decide) rfl
  have hK9 := hK.sub (tys' := []) [] rfl
  exact W.iret (pc := 29) hx hb hr (fun t ht hW => ⟨⟨_, u5, rfl, rfl, by rw [ht]; exact hP9, va_K.moved hW.alike hK9, hD9⟩, hS.F ht⟩) hS.2.2 dV_baselineRefusal_29
set_option maxHeartbeats 4000000 in
set_option maxRecDepth 100000 in
theorem v_baseline (l : Launch) (dC : Nat → ClassId) (dI : Nat → Nat → Nat) (sz : Nat) (x : Nat) (rt : Nat) (dr : Nat) (bs : Nat) (df : Nat) (ch : Nat) (pg : Nat) (rs : Int32) (cB : ClassId) (dv : Nat) (do9 : Nat) (cF : ClassId) (fv : Nat → Int32) (nn : Int32) (dd : Int32) : Met l yV_baseline (.code yV_baseline cV_baseline 6 (some .int) :: aw) ({ frames := 3, cells := 0, slots := 0, locals := 67 }) (pW (dC, dI) sz [(x, .inr (0, [.ref rt, .ref dr, .int 0, .int 0, .ref bs, .ref df, .ref ch, .ref pg, .int rs])), (pg, .inr (3, [.int 400, .int 0, .int 0, .int 0, .int 0, .int 0])), (bs, .inl (cB, 10, .inr (.inr (.inr (.inr (fun _ => none)))))), (df, .inr (1, [.ref dv, .ref do9, .int 0])), (dv, .inl (cF, 24, .inl fv))] [(cB, .object "DrawingVault$Baseline"), (cF, .int)] [.ref x, .int nn, .int dd]) (va_Qi (fun r (_ : Unit) => r = (-1)) (fun _ t => wW (dC, dI) (va_A [(x, .inr (0, [.ref rt, .ref dr, .int 0, .int 0, .ref bs, .ref df, .ref ch, .ref pg, .int rs])), (pg, .inr (3, [.int 400, .int 0, .int 0, .int 0, .int 0, .int 0])), (bs, .inl (cB, 10, .inr (.inr (.inr (.inr (fun _ => none)))))), (df, .inr (1, [.ref dv, .ref do9, .int 0])), (dv, .inl (cF, 24, .inl fv))] sz) [] [] t) (va_A [(x, .inr (0, [.ref rt, .ref dr, .int 0, .int 0, .ref bs, .ref df, .ref ch, .ref pg, .int rs])), (pg, .inr (3, [.int 400, .int 0, .int 0, .int 0, .int 0, .int 0])), (bs, .inl (cB, 10, .inr (.inr (.inr (.inr (fun _ => none)))))), (df, .inr (1, [.ref dv, .ref do9, .int 0])), (dv, .inl (cF, 24, .inl fv))] sz)) 0 0 (va_A [(x, .inr (0, [.ref rt, .ref dr, .int 0, .int 0, .ref bs, .ref df, .ref ch, .ref pg, .int rs])), (pg, .inr (3, [.int 400, .int 0, .int 0, .int 0, .int 0, .int 0])), (bs, .inl (cB, 10, .inr (.inr (.inr (.inr (fun _ => none)))))), (df, .inr (1, [.ref dv, .ref do9, .int 0])), (dv, .inl (cF, 24, .inl fv))] sz) := by
  refine Met.ofW (cc := cV_baseline) (maxL := 6) (ret := (some .int)) (by decide) rfl ?_
  intro p e s m args below meth c s₁ B hml hv
  obtain ⟨rfl, hv⟩ := hv
  have hx := B.exec
  have hb := B.bytes
  have hr := B.returns
  have hts : ∀ w ∈ aw, w.before _ s = true := fun w h => atoms_spec (ws := (.code yV_baseline cV_baseline 6 (some .int) :: aw)) B.pre w (List.mem_cons_of_mem _ h)
  have hown : s.vm.findClass RV = some m.cls := findClass_of_methodNamed B.named
  have hlocks := B.notSynchronized
  obtain ⟨hsz, hP, hK, hD0⟩ := hv
  subst hsz
  have hD := hD0.self (sz := s.heap.size)
  generalize hAe : va_A [(x, .inr (0, [.ref rt, .ref dr, .int 0, .int 0, .ref bs, .ref df, .ref ch, .ref pg, .int rs])), (pg, .inr (3, [.int 400, .int 0, .int 0, .int 0, .int 0, .int 0])), (bs, .inl (cB, 10, .inr (.inr (.inr (.inr (fun _ => none)))))), (df, .inr (1, [.ref dv, .ref do9, .int 0])), (dv, .inl (cF, 24, .inl fv))] s.heap.size = A at hD ⊢
  have hA : ∀ q : Nat, s.heap.size ≤ q → A q := fun q h => by rw [← hAe]; exact Or.inr h
  obtain ⟨H, hH⟩ : ∃ H, H = s.heap := ⟨_, rfl⟩
  have hS : va_S A s.heap H [] := by rw [hH]; exact va_S.rf
  rw [← hH] at hP ⊢
  have hP : va_P (dC, dI) kCl [(x, .inr (0, [.ref rt, .ref dr, .int 0, .int 0, .ref bs, .ref df, .ref ch, .ref pg, .int rs])), (pg, .inr (3, [.int 400, .int 0, .int 0, .int 0, .int 0, .int 0])), (bs, .inl (cB, 10, .inr (.inr (.inr (.inr (fun _ => none)))))), (df, .inr (1, [.ref dv, .ref do9, .int 0])), (dv, .inl (cF, 24, .inl fv))] H := hP
  have hl := lv_entry ([.ref x, .int nn, .int dd]) (n := 6) (Nat.le_of_ble_eq_true rfl)
  rw [lg_entry_eq]
  generalize (lg_sl ([.ref x, .int nn, .int dd]) ++ List.replicate (6 - (lg_sl ([.ref x, .int nn, .int dd])).length) Slot.unset).toArray = ls at hl ⊢
  have hl : lv_has ls 6 [(0, .ref x), (1, .int nn), (2, .int dd)] := hl
  refine lv_aload_n (pc := 0) hx hb dV_baseline_0 rfl (lv_at hl 0 rfl) ?_
  refine va_csv (pc := 1) (W.runV (As := []) (rest := []) ⟨hx, hb, hml, hown, hts⟩ (v_needPower l dC dI x rt dr bs df ch pg rs) (cwV 0 hts (gV wd_70 wd_71 wd_72 wd_35 wd_69) rfl rfl rfl (by decide +kernel) ⟨Nat.le_of_ble_eq_true rfl, Nat.le_of_ble_eq_true rfl⟩) ⟨pR_blind, va_recv (q := (RV, TV, 9)) (q0 := 0) (ci := 0) hK hP rfl rfl, pR_pre (hP.sub (ws' := [(x, .inr (0, [.ref rt, .ref dr, .int 0, .int 0, .ref bs, .ref df, .ref ch, .ref pg, .int rs])), (pg, .inr (3, [.int 400, .int 0, .int 0, .int 0, .int 0, .int 0]))]) [0, 1] rfl) (hK.sub (tys' := []) [] rfl)⟩ rfl rfl hl.1 rfl (lv_room (Nat.le_of_ble_eq_true rfl)) dV_baseline_1 ⟨Nat.le_of_ble_eq_true rfl, Nat.le_of_ble_eq_true rfl⟩) (fun hr2 => ?_)
  refine lv_aload_n (pc := 4) hx hb dV_baseline_4 rfl (lv_at hl 0 rfl) ?_
  refine lv_iload_n (pc := 5) hx hb dV_baseline_5 rfl (lv_at hl 1 rfl) ?_
  refine lv_iload_n (pc := 6) hx hb dV_baseline_6 rfl (lv_at hl 2 rfl) ?_
  have hPc := hP.sub (ws' := [(x, .inr (0, [.ref rt, .ref dr, .int 0, .int 0, .ref bs, .ref df, .ref ch, .ref pg, .int rs])), (bs, .inl (cB, 10, .inr (.inr (.inr (.inr (fun _ => none)))))), (df, .inr (1, [.ref dv, .ref do9, .int 0])), (dv, .inl (cF, 24, .inl fv))]) [0, 2, 3, 4] rfl
  have hDc := hD.sub (ws' := [(x, .inr (0, [.ref rt, .ref dr, .int 0, .int 0, .ref bs, .ref df, .ref ch, .ref pg, .int rs])), (bs, .inl (cB, 10, .inr (.inr (.inr (.inr (fun _ => none)))))), (df, .inr (1, [.ref dv, .ref do9, .int 0])), (dv, .inl (cF, 24, .inl fv))]) [0, 2, 3, 4] (by decide) rfl
  have hKc := hK.sub (tys' := [(cB, .object "DrawingVault$Baseline"), (cF, .int)]) [0, 1] rfl
  have hFc := va_free (wc := [(x, .inr (0, [.ref rt, .ref dr, .int 0, .int 0, .ref bs, .ref df, .ref ch, .ref pg, .int rs])), (bs, .inl (cB, 10, .inr (.inr (.inr (.inr (fun _ => none)))))), (df, .inr (1, [.ref dv, .ref do9, .int 0])), (dv, .inl (cF, 24, .inl fv))]) hD hS hA [0, 2, 3, 4] rfl
  refine va_calli (pc := 7) (va_runV (As := [.int nn, .int dd]) (rest := []) ⟨hx, hb, hml, hown, hts⟩ (v_baselineRefusal l dC dI H.size x rt dr bs df ch pg rs cB dv do9 cF fv nn dd) (cwV 2 hts (gV wd_270 wd_271 wd_272 wd_35 wd_269) rfl rfl rfl (by decide +kernel) ⟨Nat.le_of_ble_eq_true rfl, Nat.le_of_ble_eq_true rfl⟩) ⟨pW_blind, va_recv (q := (RV, TV, 9)) (q0 := 0) (ci := 0) hK hP rfl rfl, pW_pre hPc hKc hDc⟩ rfl rfl hl.1 rfl (lv_room (Nat.le_of_ble_eq_true rfl)) dV_baseline_7 ⟨Nat.le_of_ble_eq_true rfl, Nat.le_of_ble_eq_true rfl⟩) hS (fun q _ h => hFc q h) hFc (fun r3 u5 t H1 locs ht hvm hr4 hB hz1 hk1 hS => ?_)
  obtain ⟨hP1, hK1, hD1⟩ := hB
  rw [ht] at hP1
  have hK1 := va_K.moved hvm.symm hK1
  obtain ⟨hP, hD⟩ := va_join (wr := [(pg, .inr (3, [.int 400, .int 0, .int 0, .int 0, .int 0, .int 0]))]) (w1 := [(x, .inr (0, [.ref rt, .ref dr, .int 0, .int 0, .ref bs, .ref df, .ref ch, .ref pg, .int rs])), (bs, .inl (cB, 10, .inr (.inr (.inr (.inr (fun _ => none)))))), (df, .inr (1, [.ref dv, .ref do9, .int 0])), (dv, .inl (cF, 24, .inl u5))]) hP hD [0, 2, 3, 4] [1] rfl rfl (by decide) (by decide) hk1 hFc hP1 hD1
  generalize H1 = H at hP hS ⊢
  have hP : va_P (dC, dI) kCl [(pg, .inr (3, [.int 400, .int 0, .int 0, .int 0, .int 0, .int 0])), (x, .inr (0, [.ref rt, .ref dr, .int 0, .int 0, .ref bs, .ref df, .ref ch, .ref pg, .int rs])), (bs, .inl (cB, 10, .inr (.inr (.inr (.inr (fun _ => none)))))), (df, .inr (1, [.ref dv, .ref do9, .int 0])), (dv, .inl (cF, 24, .inl u5))] H := hP
  have hD : va_D A [(pg, .inr (3, [.int 400, .int 0, .int 0, .int 0, .int 0, .int 0])), (x, .inr (0, [.ref rt, .ref dr, .int 0, .int 0, .ref bs, .ref df, .ref ch, .ref pg, .int rs])), (bs, .inl (cB, 10, .inr (.inr (.inr (.inr (fun _ => none)))))), (df, .inr (1, [.ref dv, .ref do9, .int 0])), (dv, .inl (cF, 24, .inl u5))] := hD
  refine W.widen (k := 0) (n := 0) (Nat.le_of_ble_eq_true rfl) (Nat.le_of_ble_eq_true rfl) ?_
  obtain rfl : r3 = 7 := hr4
  refine lv_istore_n (pc := 10) hx hb dV_baseline_10 rfl hl (by decide) rfl (fun ls hl => ?_)
  have hl : lv_has ls 6 [(3, .int 7), (0, .ref x), (1, .int nn), (2, .int dd)] := hl
  refine lv_aload_n (pc := 11) hx hb dV_baseline_11 rfl (lv_at hl 1 rfl) ?_
  refine va_get (D := (dC, dI)) (cl := kCl) (C := RV) (T := TV) (N := 9) (pc := 12) hx hb hts inV hown hK hP 1 rfl rfl 5 (by decide) (hts _ wd_246) (fun _ h9 => h9) rfl dV_baseline_12 ?_
  refine vp_callSi (pc := 15) (W.runV (As := []) (rest := []) ⟨hx, hb, hml, hown, hts⟩ (b_pagesTaken l dC dI df dv do9) (cwV 0 hts (gV wd_274 wd_275 wd_276 wd_242 wd_273) rfl rfl rfl (by decide +kernel) ⟨Nat.le_of_ble_eq_true rfl, Nat.le_of_ble_eq_true rfl⟩) ⟨pR_blind, va_recv (q := (RB, TB, 3)) (q0 := 3) (ci := 1) hK hP rfl rfl, pR_pre (hP.sub (ws' := [(df, .inr (1, [.ref dv, .ref do9, .int 0]))]) [3] rfl) (hK.sub (tys' := []) [] rfl)⟩ rfl rfl hl.1 rfl (lv_room (Nat.le_of_ble_eq_true rfl)) dV_baseline_15 ⟨Nat.le_of_ble_eq_true rfl, Nat.le_of_ble_eq_true rfl⟩) (fun r7 hr8 => ?_)
  obtain rfl : r7 = 1 := hr8
  refine lv_istore (pc := 18) hx hb dV_baseline_18 hl (by decide) rfl (fun ls hl => ?_)
  have hl : lv_has ls 6 [(4, .int 1), (3, .int 7), (0, .ref x), (1, .int nn), (2, .int dd)] := hl
  refine lv_aload_n (pc := 20) hx hb dV_baseline_20 rfl (lv_at hl 2 rfl) ?_
  refine lv_iload_n (pc := 21) hx hb dV_baseline_21 rfl (lv_at hl 1 rfl) ?_
  refine lv_iload (pc := 22) hx hb dV_baseline_22 (lv_at hl 0 rfl) ?_
  have hPc := hP.sub (ws' := [(x, .inr (0, [.ref rt, .ref dr, .int 0, .int 0, .ref bs, .ref df, .ref ch, .ref pg, .int rs]))]) [1] rfl
  have hDc := hD.sub (ws' := [(x, .inr (0, [.ref rt, .ref dr, .int 0, .int 0, .ref bs, .ref df, .ref ch, .ref pg, .int rs]))]) [1] (by decide) rfl
  have hKc := hK.sub (tys' := []) [] rfl
  have hFc := va_free (wc := [(x, .inr (0, [.ref rt, .ref dr, .int 0, .int 0, .ref bs, .ref df, .ref ch, .ref pg, .int rs]))]) hD hS hA [1] rfl
  refine va_calli (pc := 24) (va_runV (As := [.int 7, .int 1]) (rest := []) ⟨hx, hb, hml, hown, hts⟩ (v_mayWrite l dC dI H.size x rt dr bs df ch pg rs 7 1 (by decide)) (cwV 2 hts (gV wd_66 wd_67 wd_68 wd_35 wd_65) rfl rfl rfl (by decide +kernel) ⟨Nat.le_of_ble_eq_true rfl, Nat.le_of_ble_eq_true rfl⟩) ⟨pW_blind, va_recv (q := (RV, TV, 9)) (q0 := 1) (ci := 0) hK hP rfl rfl, pW_pre hPc hKc hDc⟩ rfl rfl hl.1 rfl (lv_room (Nat.le_of_ble_eq_true rfl)) dV_baseline_24 ⟨Nat.le_of_ble_eq_true rfl, Nat.le_of_ble_eq_true rfl⟩) hS (fun q _ h => hFc q h) hFc (fun r9 u t H1 locs ht hvm hr10 hB hz1 hk1 hS => ?_)
  obtain ⟨hP1, hK1, hD1⟩ := hB
  rw [ht] at hP1
  have hK1 := va_K.moved hvm.symm hK1
  obtain ⟨hP, hD⟩ := va_join (wr := [(pg, .inr (3, [.int 400, .int 0, .int 0, .int 0, .int 0, .int 0])), (bs, .inl (cB, 10, .inr (.inr (.inr (.inr (fun _ => none)))))), (df, .inr (1, [.ref dv, .ref do9, .int 0])), (dv, .inl (cF, 24, .inl u5))]) (w1 := [(x, .inr (0, [.ref rt, .ref dr, .int 0, .int 0, .ref bs, .ref df, .ref ch, .ref pg, .int 7]))]) hP hD [1] [0, 2, 3, 4] rfl rfl (by decide) (by decide) hk1 hFc hP1 hD1
  generalize H1 = H at hP hS ⊢
  have hP : va_P (dC, dI) kCl [(pg, .inr (3, [.int 400, .int 0, .int 0, .int 0, .int 0, .int 0])), (bs, .inl (cB, 10, .inr (.inr (.inr (.inr (fun _ => none)))))), (df, .inr (1, [.ref dv, .ref do9, .int 0])), (dv, .inl (cF, 24, .inl u5)), (x, .inr (0, [.ref rt, .ref dr, .int 0, .int 0, .ref bs, .ref df, .ref ch, .ref pg, .int 7]))] H := hP
  have hD : va_D A [(pg, .inr (3, [.int 400, .int 0, .int 0, .int 0, .int 0, .int 0])), (bs, .inl (cB, 10, .inr (.inr (.inr (.inr (fun _ => none)))))), (df, .inr (1, [.ref dv, .ref do9, .int 0])), (dv, .inl (cF, 24, .inl u5)), (x, .inr (0, [.ref rt, .ref dr, .int 0, .int 0, .ref bs, .ref df, .ref ch, .ref pg, .int 7]))] := hD
  refine W.widen (k := 0) (n := 0) (Nat.le_of_ble_eq_true rfl) (Nat.le_of_ble_eq_true rfl) ?_
  obtain rfl : r9 = 0 := hr10
  refine lv_if_ne (pc := 27) (tgt := 32) hx hb dV_baseline_27 rfl (fun h12 => absurd h12 (by decide)) (fun h12 => ?_)
  refine lv_iconst (pc := 30) (v := (-1)) hx hb dV_baseline_30 (by decide) ?_
  have hP9 := hP.sub (ws' := []) [] rfl
  have hD9 := hD.sub (ws' := []) [] (by decide) rfl
  have hK9 := hK.sub (tys' := []) [] rfl
  exact W.iret (pc := 31) hx hb hr (fun t ht hW => ⟨⟨_, (), rfl, rfl, by rw [ht]; exact hP9, va_K.moved hW.alike hK9, hD9⟩, hS.F ht⟩) hS.2.2 dV_baseline_31
