abbrev cA_fillJ : ByteArray := prog_17_method_101_code
abbrev yA_fillJ : MethodName := ⟨"java/util/Arrays", "fill", "([JJ)V"⟩
theorem dA_fillJ_0 : decode cA_fillJ 0 = .ok (.iconst 0, 1) := by decide +kernel
theorem dA_fillJ_1 : decode cA_fillJ 1 = .ok (.istore_n 3, 1) := by decide +kernel
theorem dA_fillJ_2 : decode cA_fillJ 2 = .ok (.aload_n 0, 1) := by decide +kernel
theorem dA_fillJ_3 : decode cA_fillJ 3 = .ok (.arraylength, 1) := by decide +kernel
theorem dA_fillJ_4 : decode cA_fillJ 4 = .ok (.istore 4, 2) := by decide +kernel
theorem dA_fillJ_6 : decode cA_fillJ 6 = .ok (.iload_n 3, 1) := by decide +kernel
theorem dA_fillJ_7 : decode cA_fillJ 7 = .ok (.iload 4, 2) := by decide +kernel
theorem dA_fillJ_9 : decode cA_fillJ 9 = .ok (.if_icmp .ge 13, 3) := by decide +kernel
theorem dA_fillJ_12 : decode cA_fillJ 12 = .ok (.aload_n 0, 1) := by decide +kernel
theorem dA_fillJ_13 : decode cA_fillJ 13 = .ok (.iload_n 3, 1) := by decide +kernel
theorem dA_fillJ_14 : decode cA_fillJ 14 = .ok (.lload_n 1, 1) := by decide +kernel
theorem dA_fillJ_15 : decode cA_fillJ 15 = .ok (.lastore, 1) := by decide +kernel
theorem dA_fillJ_16 : decode cA_fillJ 16 = .ok (.iinc 3 1, 3) := by decide +kernel
theorem dA_fillJ_19 : decode cA_fillJ 19 = .ok (.goto (-13), 3) := by decide +kernel
theorem dA_fillJ_22 : decode cA_fillJ 22 = .ok (.return_, 1) := by decide +kernel
abbrev cA_fillI : ByteArray := prog_17_method_103_code
abbrev yA_fillI : MethodName := ⟨"java/util/Arrays", "fill", "([II)V"⟩
theorem dA_fillI_0 : decode cA_fillI 0 = .ok (.iconst 0, 1) := by decide +kernel
theorem dA_fillI_1 : decode cA_fillI 1 = .ok (.istore_n 2, 1) := by decide +kernel
theorem dA_fillI_2 : decode cA_fillI 2 = .ok (.aload_n 0, 1) := by decide +kernel
theorem dA_fillI_3 : decode cA_fillI 3 = .ok (.arraylength, 1) := by decide +kernel
theorem dA_fillI_4 : decode cA_fillI 4 = .ok (.istore_n 3, 1) := by decide +kernel
theorem dA_fillI_5 : decode cA_fillI 5 = .ok (.iload_n 2, 1) := by decide +kernel
theorem dA_fillI_6 : decode cA_fillI 6 = .ok (.iload_n 3, 1) := by decide +kernel
theorem dA_fillI_7 : decode cA_fillI 7 = .ok (.if_icmp .ge 13, 3) := by decide +kernel
theorem dA_fillI_10 : decode cA_fillI 10 = .ok (.aload_n 0, 1) := by decide +kernel
theorem dA_fillI_11 : decode cA_fillI 11 = .ok (.iload_n 2, 1) := by decide +kernel
theorem dA_fillI_12 : decode cA_fillI 12 = .ok (.iload_n 1, 1) := by decide +kernel
theorem dA_fillI_13 : decode cA_fillI 13 = .ok (.iastore, 1) := by decide +kernel
theorem dA_fillI_14 : decode cA_fillI 14 = .ok (.iinc 2 1, 3) := by decide +kernel
theorem dA_fillI_17 : decode cA_fillI 17 = .ok (.goto (-12), 3) := by decide +kernel
theorem dA_fillI_20 : decode cA_fillI 20 = .ok (.return_, 1) := by decide +kernel
abbrev cC_clear : ByteArray := prog_4_method_3_code
abbrev yC_clear : MethodName := ⟨"DrawingVault$Content", "clear", "()V"⟩
theorem dC_clear_0 : decode cC_clear 0 = .ok (.aload_n 0, 1) := by decide +kernel
theorem dC_clear_1 : decode cC_clear 1 = .ok (.getfield 9, 3) := by decide +kernel
theorem dC_clear_4 : decode cC_clear 4 = .ok (.lconst 0, 1) := by decide +kernel
theorem dC_clear_5 : decode cC_clear 5 = .ok (.invokestatic 35, 3) := by decide +kernel
theorem dC_clear_8 : decode cC_clear 8 = .ok (.aload_n 0, 1) := by decide +kernel
theorem dC_clear_9 : decode cC_clear 9 = .ok (.iconst 0, 1) := by decide +kernel
theorem dC_clear_10 : decode cC_clear 10 = .ok (.putfield 28, 3) := by decide +kernel
theorem dC_clear_13 : decode cC_clear 13 = .ok (.aload_n 0, 1) := by decide +kernel
theorem dC_clear_14 : decode cC_clear 14 = .ok (.iconst 0, 1) := by decide +kernel
theorem dC_clear_15 : decode cC_clear 15 = .ok (.putfield 32, 3) := by decide +kernel
theorem dC_clear_18 : decode cC_clear 18 = .ok (.return_, 1) := by decide +kernel
abbrev cC_samePiece : ByteArray := prog_4_method_10_code
abbrev yC_samePiece : MethodName := ⟨"DrawingVault$Content", "samePiece", "(LDrawingVault$Content;I)Z"⟩
theorem dC_samePiece_0 : decode cC_samePiece 0 = .ok (.aload_n 0, 1) := by decide +kernel
theorem dC_samePiece_1 : decode cC_samePiece 1 = .ok (.iload_n 2, 1) := by decide +kernel
theorem dC_samePiece_2 : decode cC_samePiece 2 = .ok (.invokevirtual 62, 3) := by decide +kernel
theorem dC_samePiece_5 : decode cC_samePiece 5 = .ok (.aload_n 1, 1) := by decide +kernel
theorem dC_samePiece_6 : decode cC_samePiece 6 = .ok (.iload_n 2, 1) := by decide +kernel
theorem dC_samePiece_7 : decode cC_samePiece 7 = .ok (.invokevirtual 62, 3) := by decide +kernel
theorem dC_samePiece_10 : decode cC_samePiece 10 = .ok (.if_icmp .ne 23, 3) := by decide +kernel
theorem dC_samePiece_13 : decode cC_samePiece 13 = .ok (.aload_n 0, 1) := by decide +kernel
theorem dC_samePiece_14 : decode cC_samePiece 14 = .ok (.getfield 9, 3) := by decide +kernel
theorem dC_samePiece_17 : decode cC_samePiece 17 = .ok (.iload_n 2, 1) := by decide +kernel
theorem dC_samePiece_18 : decode cC_samePiece 18 = .ok (.laload, 1) := by decide +kernel
theorem dC_samePiece_19 : decode cC_samePiece 19 = .ok (.aload_n 1, 1) := by decide +kernel
theorem dC_samePiece_20 : decode cC_samePiece 20 = .ok (.getfield 9, 3) := by decide +kernel
theorem dC_samePiece_23 : decode cC_samePiece 23 = .ok (.iload_n 2, 1) := by decide +kernel
theorem dC_samePiece_24 : decode cC_samePiece 24 = .ok (.laload, 1) := by decide +kernel
theorem dC_samePiece_25 : decode cC_samePiece 25 = .ok (.lcmp, 1) := by decide +kernel
theorem dC_samePiece_26 : decode cC_samePiece 26 = .ok (.ifCond .ne 7, 3) := by decide +kernel
theorem dC_samePiece_29 : decode cC_samePiece 29 = .ok (.iconst 1, 1) := by decide +kernel
theorem dC_samePiece_30 : decode cC_samePiece 30 = .ok (.goto 4, 3) := by decide +kernel
theorem dC_samePiece_33 : decode cC_samePiece 33 = .ok (.iconst 0, 1) := by decide +kernel
theorem dC_samePiece_34 : decode cC_samePiece 34 = .ok (.ireturn, 1) := by decide +kernel
abbrev cB_pagesTaken : ByteArray := prog_2_method_5_code
abbrev yB_pagesTaken : MethodName := ⟨"DrawingVault$Baseline", "pagesTaken", "()I"⟩
theorem dB_pagesTaken_0 : decode cB_pagesTaken 0 = .ok (.iconst 1, 1) := by decide +kernel
theorem dB_pagesTaken_1 : decode cB_pagesTaken 1 = .ok (.aload_n 0, 1) := by decide +kernel
theorem dB_pagesTaken_2 : decode cB_pagesTaken 2 = .ok (.getfield 24, 3) := by decide +kernel
theorem dB_pagesTaken_5 : decode cB_pagesTaken 5 = .ok (.bipush 8, 2) := by decide +kernel
theorem dB_pagesTaken_7 : decode cB_pagesTaken 7 = .ok (.iadd, 1) := by decide +kernel
theorem dB_pagesTaken_8 : decode cB_pagesTaken 8 = .ok (.iconst 1, 1) := by decide +kernel
theorem dB_pagesTaken_9 : decode cB_pagesTaken 9 = .ok (.isub, 1) := by decide +kernel
theorem dB_pagesTaken_10 : decode cB_pagesTaken 10 = .ok (.bipush 8, 2) := by decide +kernel
theorem dB_pagesTaken_12 : decode cB_pagesTaken 12 = .ok (.idiv, 1) := by decide +kernel
theorem dB_pagesTaken_13 : decode cB_pagesTaken 13 = .ok (.iadd, 1) := by decide +kernel
theorem dB_pagesTaken_14 : decode cB_pagesTaken 14 = .ok (.ireturn, 1) := by decide +kernel
abbrev cB_clear : ByteArray := prog_2_method_2_code
abbrev yB_clear : MethodName := ⟨"DrawingVault$Baseline", "clear", "()V"⟩
theorem dB_clear_0 : decode cB_clear 0 = .ok (.aload_n 0, 1) := by decide +kernel
theorem dB_clear_1 : decode cB_clear 1 = .ok (.getfield 9, 3) := by decide +kernel
theorem dB_clear_4 : decode cB_clear 4 = .ok (.iconst (-1), 1) := by decide +kernel
theorem dB_clear_5 : decode cB_clear 5 = .ok (.invokestatic 18, 3) := by decide +kernel
theorem dB_clear_8 : decode cB_clear 8 = .ok (.aload_n 0, 1) := by decide +kernel
theorem dB_clear_9 : decode cB_clear 9 = .ok (.iconst 0, 1) := by decide +kernel
theorem dB_clear_10 : decode cB_clear 10 = .ok (.putfield 24, 3) := by decide +kernel
theorem dB_clear_13 : decode cB_clear 13 = .ok (.return_, 1) := by decide +kernel
abbrev cB_init : ByteArray := prog_2_method_1_code
abbrev yB_init : MethodName := ⟨"DrawingVault$Baseline", "<init>", "()V"⟩
theorem dB_init_0 : decode cB_init 0 = .ok (.aload_n 0, 1) := by decide +kernel
theorem dB_init_1 : decode cB_init 1 = .ok (.invokespecial 3, 3) := by decide +kernel
theorem dB_init_4 : decode cB_init 4 = .ok (.aload_n 0, 1) := by decide +kernel
theorem dB_init_5 : decode cB_init 5 = .ok (.bipush 24, 2) := by decide +kernel
theorem dB_init_7 : decode cB_init 7 = .ok (.newarray .int, 2) := by decide +kernel
theorem dB_init_9 : decode cB_init 9 = .ok (.putfield 9, 3) := by decide +kernel
theorem dB_init_12 : decode cB_init 12 = .ok (.aload_n 0, 1) := by decide +kernel
theorem dB_init_13 : decode cB_init 13 = .ok (.bipush 24, 2) := by decide +kernel
theorem dB_init_15 : decode cB_init 15 = .ok (.newarray .int, 2) := by decide +kernel
theorem dB_init_17 : decode cB_init 17 = .ok (.putfield 15, 3) := by decide +kernel
theorem dB_init_20 : decode cB_init 20 = .ok (.aload_n 0, 1) := by decide +kernel
theorem dB_init_21 : decode cB_init 21 = .ok (.getfield 9, 3) := by decide +kernel
theorem dB_init_24 : decode cB_init 24 = .ok (.iconst (-1), 1) := by decide +kernel
theorem dB_init_25 : decode cB_init 25 = .ok (.invokestatic 18, 3) := by decide +kernel
theorem dB_init_28 : decode cB_init 28 = .ok (.return_, 1) := by decide +kernel
abbrev cP_init : ByteArray := prog_6_method_1_code
abbrev yP_init : MethodName := ⟨"DrawingVault$Pages", "<init>", "()V"⟩
theorem dP_init_0 : decode cP_init 0 = .ok (.aload_n 0, 1) := by decide +kernel
theorem dP_init_1 : decode cP_init 1 = .ok (.invokespecial 3, 3) := by decide +kernel
theorem dP_init_4 : decode cP_init 4 = .ok (.aload_n 0, 1) := by decide +kernel
theorem dP_init_5 : decode cP_init 5 = .ok (.sipush 400, 3) := by decide +kernel
theorem dP_init_8 : decode cP_init 8 = .ok (.putfield 9, 3) := by decide +kernel
theorem dP_init_11 : decode cP_init 11 = .ok (.return_, 1) := by decide +kernel
abbrev cK_init : ByteArray := prog_3_method_1_code
abbrev yK_init : MethodName := ⟨"DrawingVault$ChunkSet", "<init>", "()V"⟩
theorem dK_init_0 : decode cK_init 0 = .ok (.aload_n 0, 1) := by decide +kernel
theorem dK_init_1 : decode cK_init 1 = .ok (.invokespecial 3, 3) := by decide +kernel
theorem dK_init_4 : decode cK_init 4 = .ok (.aload_n 0, 1) := by decide +kernel
theorem dK_init_5 : decode cK_init 5 = .ok (.sipush 992, 3) := by decide +kernel
theorem dK_init_8 : decode cK_init 8 = .ok (.newarray .long, 2) := by decide +kernel
theorem dK_init_10 : decode cK_init 10 = .ok (.putfield 9, 3) := by decide +kernel
theorem dK_init_13 : decode cK_init 13 = .ok (.aload_n 0, 1) := by decide +kernel
theorem dK_init_14 : decode cK_init 14 = .ok (.sipush 992, 3) := by decide +kernel
theorem dK_init_17 : decode cK_init 17 = .ok (.newarray .byte, 2) := by decide +kernel
theorem dK_init_19 : decode cK_init 19 = .ok (.putfield 15, 3) := by decide +kernel
theorem dK_init_22 : decode cK_init 22 = .ok (.return_, 1) := by decide +kernel
abbrev cK_clear : ByteArray := prog_3_method_2_code
abbrev yK_clear : MethodName := ⟨"DrawingVault$ChunkSet", "clear", "()V"⟩
theorem dK_clear_0 : decode cK_clear 0 = .ok (.aload_n 0, 1) := by decide +kernel
theorem dK_clear_1 : decode cK_clear 1 = .ok (.iconst 0, 1) := by decide +kernel
theorem dK_clear_2 : decode cK_clear 2 = .ok (.putfield 19, 3) := by decide +kernel
theorem dK_clear_5 : decode cK_clear 5 = .ok (.return_, 1) := by decide +kernel
abbrev cS_init : ByteArray := prog_7_method_1_code
abbrev yS_init : MethodName := ⟨"DrawingVault$Revision", "<init>", "(I)V"⟩
theorem dS_init_0 : decode cS_init 0 = .ok (.aload_n 0, 1) := by decide +kernel
theorem dS_init_1 : decode cS_init 1 = .ok (.invokespecial 3, 3) := by decide +kernel
theorem dS_init_4 : decode cS_init 4 = .ok (.aload_n 0, 1) := by decide +kernel
theorem dS_init_5 : decode cS_init 5 = .ok (.new 9, 3) := by decide +kernel
theorem dS_init_8 : decode cS_init 8 = .ok (.dup, 1) := by decide +kernel
theorem dS_init_9 : decode cS_init 9 = .ok (.invokespecial 11, 3) := by decide +kernel
theorem dS_init_12 : decode cS_init 12 = .ok (.putfield 12, 3) := by decide +kernel
theorem dS_init_15 : decode cS_init 15 = .ok (.aload_n 0, 1) := by decide +kernel
theorem dS_init_16 : decode cS_init 16 = .ok (.iconst 0, 1) := by decide +kernel
theorem dS_init_17 : decode cS_init 17 = .ok (.putfield 18, 3) := by decide +kernel
theorem dS_init_20 : decode cS_init 20 = .ok (.aload_n 0, 1) := by decide +kernel
theorem dS_init_21 : decode cS_init 21 = .ok (.iload_n 1, 1) := by decide +kernel
theorem dS_init_22 : decode cS_init 22 = .ok (.putfield 22, 3) := by decide +kernel
theorem dS_init_25 : decode cS_init 25 = .ok (.return_, 1) := by decide +kernel
theorem wd_85 : (.code ⟨"java/util/Arrays", "fill", "([JJ)V"⟩ prog_17_method_101_code 5 (Option.none : Option Jvm.ClassFile.FieldType) : Cond) ∈ aw := aw_in (tb_3 (List.mem_of_getElem? (i := 2) rfl)) rfl
theorem wd_86 : (.methodLink "DrawingVault$Content" 35 ⟨"java/util/Arrays", "fill", "([JJ)V"⟩ : Cond) ∈ aw := aw_in (tb_3 (List.mem_of_getElem? (i := 0) rfl)) rfl
theorem wd_87 : (.static ⟨"java/util/Arrays", "fill", "([JJ)V"⟩ : Cond) ∈ aw := aw_in (tb_3 (List.mem_of_getElem? (i := 1) rfl)) rfl
theorem wd_88 : (.initialized "java/util/Arrays" : Cond) ∈ aw := aw_in (tb_1 (List.mem_of_getElem? (i := 3) rfl)) rfl
theorem wd_89 : (.code ⟨"DrawingVault$Content", "pieceLength", "(I)I"⟩ prog_4_method_9_code 2 (Option.some .int) : Cond) ∈ aw := aw_in (tb_1 (List.mem_of_getElem? (i := 221) rfl)) rfl
theorem wd_90 : (.methodLink "DrawingVault$Content" 62 ⟨"DrawingVault$Content", "pieceLength", "(I)I"⟩ : Cond) ∈ aw := aw_in (tb_4 (List.mem_of_getElem? (i := 19) rfl)) rfl
theorem wd_91 : (.instanceMethod ⟨"DrawingVault$Content", "pieceLength", "(I)I"⟩ : Cond) ∈ aw := aw_in (tb_1 (List.mem_of_getElem? (i := 219) rfl)) rfl
theorem wd_92 : (.selects "DrawingVault$Content" ⟨"DrawingVault$Content", "pieceLength", "(I)I"⟩ ⟨"DrawingVault$Content", "pieceLength", "(I)I"⟩ : Cond) ∈ aw := aw_in (tb_1 (List.mem_of_getElem? (i := 220) rfl)) rfl
theorem wd_93 : (.fieldLink "DrawingVault$Baseline" 24 "DrawingVault$Baseline" "size" "I" : Cond) ∈ aw := aw_in (tb_1 (List.mem_of_getElem? (i := 41) rfl)) rfl
theorem wd_94 : (.fieldLink "DrawingVault$Baseline" 9 "DrawingVault$Baseline" "revisionOf" "[I" : Cond) ∈ aw := aw_in (tb_1 (List.mem_of_getElem? (i := 37) rfl)) rfl
theorem wd_95 : (.code ⟨"java/util/Arrays", "fill", "([II)V"⟩ prog_17_method_103_code 4 (Option.none : Option Jvm.ClassFile.FieldType) : Cond) ∈ aw := aw_in (tb_1 (List.mem_of_getElem? (i := 36) rfl)) rfl
theorem wd_96 : (.methodLink "DrawingVault$Baseline" 18 ⟨"java/util/Arrays", "fill", "([II)V"⟩ : Cond) ∈ aw := aw_in (tb_1 (List.mem_of_getElem? (i := 34) rfl)) rfl
theorem wd_97 : (.static ⟨"java/util/Arrays", "fill", "([II)V"⟩ : Cond) ∈ aw := aw_in (tb_1 (List.mem_of_getElem? (i := 35) rfl)) rfl
theorem wd_98 : (.methodLink "DrawingVault$Baseline" 3 ⟨"java/lang/Object", "<init>", "()V"⟩ : Cond) ∈ aw := aw_in (tb_1 (List.mem_of_getElem? (i := 33) rfl)) rfl
theorem wd_99 : (.fieldLink "DrawingVault$Baseline" 15 "DrawingVault$Baseline" "order" "[I" : Cond) ∈ aw := aw_in (tb_1 (List.mem_of_getElem? (i := 39) rfl)) rfl
theorem wd_100 : (.methodLink "DrawingVault$Pages" 3 ⟨"java/lang/Object", "<init>", "()V"⟩ : Cond) ∈ aw := aw_in (tb_1 (List.mem_of_getElem? (i := 75) rfl)) rfl
theorem wd_101 : (.methodLink "DrawingVault$ChunkSet" 3 ⟨"java/lang/Object", "<init>", "()V"⟩ : Cond) ∈ aw := aw_in (tb_1 (List.mem_of_getElem? (i := 56) rfl)) rfl
theorem wd_102 : (.fieldLink "DrawingVault$ChunkSet" 9 "DrawingVault$ChunkSet" "pieces" "[J" : Cond) ∈ aw := aw_in (tb_1 (List.mem_of_getElem? (i := 57) rfl)) rfl
theorem wd_103 : (.arrayClass .byte : Cond) ∈ aw := aw_in (tb_1 (List.mem_of_getElem? (i := 69) rfl)) rfl
theorem wd_104 : (.fieldLink "DrawingVault$ChunkSet" 15 "DrawingVault$ChunkSet" "lengths" "[B" : Cond) ∈ aw := aw_in (tb_1 (List.mem_of_getElem? (i := 58) rfl)) rfl
theorem wd_105 : (.fieldLink "DrawingVault$ChunkSet" 19 "DrawingVault$ChunkSet" "size" "I" : Cond) ∈ aw := aw_in (tb_1 (List.mem_of_getElem? (i := 59) rfl)) rfl
theorem wd_106 : (.methodLink "DrawingVault$Revision" 3 ⟨"java/lang/Object", "<init>", "()V"⟩ : Cond) ∈ aw := aw_in (tb_2 (List.mem_of_getElem? (i := 187) rfl)) rfl
theorem wd_107 : (.classLink "DrawingVault$Revision" 9 "DrawingVault$Content" : Cond) ∈ aw := aw_in (tb_2 (List.mem_of_getElem? (i := 188) rfl)) rfl
theorem wd_108 : (.instantiable "DrawingVault$Content" 5 : Cond) ∈ aw := aw_in (tb_2 (List.mem_of_getElem? (i := 132) rfl)) rfl
theorem wd_109 : (.code ⟨"DrawingVault$Content", "<init>", "()V"⟩ prog_4_method_1_code 1 (Option.none : Option Jvm.ClassFile.FieldType) : Cond) ∈ aw := aw_in (tb_2 (List.mem_of_getElem? (i := 135) rfl)) rfl
theorem wd_110 : (.instanceMethod ⟨"DrawingVault$Content", "<init>", "()V"⟩ : Cond) ∈ aw := aw_in (tb_2 (List.mem_of_getElem? (i := 134) rfl)) rfl
theorem wd_111 : (.fieldLink "DrawingVault$Revision" 12 "DrawingVault$Revision" "content" "LDrawingVault$Content;" : Cond) ∈ aw := aw_in (tb_2 (List.mem_of_getElem? (i := 190) rfl)) rfl
theorem wd_112 : (.fieldLink "DrawingVault$Revision" 18 "DrawingVault$Revision" "state" "I" : Cond) ∈ aw := aw_in (tb_2 (List.mem_of_getElem? (i := 195) rfl)) rfl
theorem wd_113 : (.fieldLink "DrawingVault$Revision" 22 "DrawingVault$Revision" "author" "I" : Cond) ∈ aw := aw_in (tb_2 (List.mem_of_getElem? (i := 193) rfl)) rfl

/-- the first i places hold v -/
def c_fl {α : Type} (f : Nat → α) (v : α) (i : Nat) : Nat → α := fun j => if j < i then v else f j
theorem c_fl_0 {α : Type} (f : Nat → α) (v : α) : f = c_fl f v 0 := by
  funext j
  unfold c_fl
  rw [if_neg (by omega)]
theorem c_fl_s {f g : Nat → Int32} {v : Int32} {i : Nat} (hi : i < 2 ^ 31) (h : g = c_fl f v i) : upd g (nI i).toNatClampNeg v = c_fl f v (i + 1) := by
  subst h
  rw [nI_clamp hi]
  funext j
  unfold upd c_fl
  by_cases e : j = i
  · rw [if_pos e, if_pos (by omega)]
  · rw [if_neg e]
    by_cases e2 : j < i
    · rw [if_pos e2, if_pos (by omega)]
    · rw [if_neg e2, if_neg (by omega)]
theorem c_fl_sL {f g : Nat → Int64} {v : Int64} {i : Nat} (hi : i < 2 ^ 31) (h : g = c_fl f v i) : vp_updL g (nI i).toNatClampNeg v = c_fl f v (i + 1) := by
  subst h
  rw [nI_clamp hi]
  funext j
  unfold vp_updL c_fl
  by_cases e : j = i
  · rw [if_pos e, if_pos (by omega)]
  · rw [if_neg e]
    by_cases e2 : j < i
    · rw [if_pos e2, if_pos (by omega)]
    · rw [if_neg e2, if_neg (by omega)]

set_option maxHeartbeats 4000000 in
set_option maxRecDepth 100000 in
theorem ga_fillJ (l : Launch) (dC : Nat → ClassId) (dI : Nat → Nat → Nat) (sz : Nat) (ar : Nat) (cF : ClassId) (fa : Nat → Int64) (va : Int64) : Met l yA_fillJ (.code yA_fillJ cA_fillJ 5 none :: aw) ({ frames := 0, cells := 0, slots := 0, locals := 0 }) (pW (dC, dI) sz [(ar, .inl (cF, 8, .inr (.inl fa)))] [(cF, .long)] [.ref ar, .long va]) (va_Qv (fun (_ : Unit) => True) (fun _ t => wW (dC, dI) (va_A [(ar, .inl (cF, 8, .inr (.inl fa)))] sz) [(ar, .inl (cF, 8, .inr (.inl (c_fl fa va 8))))] [(cF, .long)] t) (va_A [(ar, .inl (cF, 8, .inr (.inl fa)))] sz)) 0 0 (va_A [(ar, .inl (cF, 8, .inr (.inl fa)))] sz) := by
  refine Met.ofW (cc := cA_fillJ) (maxL := 5) (ret := none) (by decide) rfl ?_
  intro p e s m args below meth c s₁ B hml hv
  obtain ⟨rfl, hv⟩ := hv
  have hx := B.exec
  have hb := B.bytes
  have hr := B.returns
  have hts : ∀ w ∈ aw, w.before _ s = true := fun w h => atoms_spec (ws := (.code yA_fillJ cA_fillJ 5 none :: aw)) B.pre w (List.mem_cons_of_mem _ h)
  have hown : s.vm.findClass RA = some m.cls := findClass_of_methodNamed B.named
  have hlocks := B.notSynchronized
  obtain ⟨hsz, hP, hK, hD0, hG⟩ := hv
  subst hsz
  have hD := hD0.self (sz := s.heap.size)
  generalize hAe : va_A [(ar, .inl (cF, 8, .inr (.inl fa)))] s.heap.size = A at hD ⊢
  have hA : ∀ q : Nat, s.heap.size ≤ q → A q := fun q h => by rw [← hAe]; exact Or.inr h
  obtain ⟨H, hH⟩ : ∃ H, H = s.heap := ⟨_, rfl⟩
  have hS : va_S A s.heap H [] := by rw [hH]; exact va_S.rf
  rw [← hH] at hP ⊢
  have hP : va_P (dC, dI) kCl [(ar, .inl (cF, 8, .inr (.inl fa)))] H := hP
  have hl := lv_entry ([.ref ar, .long va]) (n := 5) (Nat.le_of_ble_eq_true rfl)
  rw [lg_entry_eq]
  generalize (lg_sl ([.ref ar, .long va]) ++ List.replicate (5 - (lg_sl ([.ref ar, .long va])).length) Slot.unset).toArray = ls at hl ⊢
  have hl : lv_has ls 5 [(0, .ref ar), (1, .long va)] := hl
  refine lv_iconst (pc := 0) (v := 0) hx hb dA_fillJ_0 (by decide) ?_
  refine lv_istore_n (pc := 1) hx hb dA_fillJ_1 rfl hl (by decide) rfl (fun ls hl => ?_)
  have hl : lv_has ls 5 [(3, .int 0), (0, .ref ar), (1, .long va)] := hl
  refine lv_aload_n (pc := 2) hx hb dA_fillJ_2 rfl (lv_at hl 1 rfl) ?_
  refine va_alen (D := (dC, dI)) (cl := kCl) (pc := 3) (v := 8) hx hb hK hP 0 0 rfl rfl rfl dA_fillJ_3 ?_
  refine lv_istore (pc := 4) hx hb dA_fillJ_4 hl (by decide) rfl (fun ls hl => ?_)
  have hl : lv_has ls 5 [(4, .int 8), (3, .int 0), (0, .ref ar), (1, .long va)] := hl
  refine lpM (σ := (Nat) × (Nat → Int64) × (Heap) × (List Loc) × (Array Slot)) (fun z => W p l e _ s m _ below meth c z.2.2.1 z.2.2.2.1 0 0 _ (F0 m 6 z.2.2.2.2 [])) (fun z => va_P (dC, dI) kCl [(ar, .inl (cF, 8, .inr (.inl z.2.1)))] z.2.2.1 ∧ va_D A [(ar, .inl (cF, 8, .inr (.inl z.2.1)))] ∧ va_S A s.heap z.2.2.1 z.2.2.2.1 ∧ lv_has z.2.2.2.2 5 [(4, .int 8), (3, .int (nI z.1)), (0, .ref ar), (1, .long va)] ∧ (z.1 ≤ 8) ∧ (z.2.1 = c_fl fa va z.1)) (fun z => 8 - z.1) ?_ (0, fa, H, _, ls) ⟨hP, hD, hS, hl, Nat.zero_le _, c_fl_0 _ _⟩
  rintro ⟨i, g1, H, locs, ls⟩ ⟨hP, hD, hS, hl, hi, hg1⟩ ih
  try dsimp only at hP hD hS hl hi hg1 ih ⊢
  have hP : va_P (dC, dI) kCl [(ar, .inl (cF, 8, .inr (.inl g1)))] H := hP
  have hD : va_D A [(ar, .inl (cF, 8, .inr (.inl g1)))] := hD
  have hl : lv_has ls 5 [(4, .int 8), (3, .int (nI i)), (0, .ref ar), (1, .long va)] := hl
  have hi : i ≤ 8 := hi
  have hg1 : g1 = c_fl fa va i := hg1
  refine lv_iload_n (pc := 6) hx hb dA_fillJ_6 rfl (lv_at hl 1 rfl) ?_
  refine lv_iload (pc := 7) hx hb dA_fillJ_7 (lv_at hl 0 rfl) ?_
  refine lv_icmp_ge (pc := 9) (tgt := 22) hx hb dA_fillJ_9 rfl (fun h1 => ?_) (fun h1 => ?_)
  · obtain rfl : i = 8 := by have := nle_of (b := 8) h1 (by omega) (by omega); omega
    subst hg1
    have hP : va_P (dC, dI) kCl [(ar, .inl (cF, 8, .inr (.inl (c_fl fa va 8))))] H := hP
    have hD : va_D A [(ar, .inl (cF, 8, .inr (.inl (c_fl fa va 8))))] := hD
    have hP9 := hP.sub (ws' := [(ar, .inl (cF, 8, .inr (.inl (c_fl fa va 8))))]) [0] rfl
    have hD9 := hD.sub (ws' := [(ar, .inl (cF, 8, .inr (.inl (c_fl fa va 8))))]) [0] (by decide) rfl
    have hK9 := hK.sub (tys' := [(cF, .long)]) [0] rfl
    exact W.vret (pc := 22) hx hb hr (fun t ht hW => ⟨⟨(), rfl, trivial, by rw [ht]; exact hP9, va_K.moved hW.alike hK9, hD9⟩, hS.F ht⟩) hS.2.2 dA_fillJ_22
  · refine lv_aload_n (pc := 12) hx hb dA_fillJ_12 rfl (lv_at hl 2 rfl) ?_
    refine lv_iload_n (pc := 13) hx hb dA_fillJ_13 rfl (lv_at hl 1 rfl) ?_
    refine lv_lload_n (pc := 14) hx hb dA_fillJ_14 rfl (lv_at hl 3 rfl) ?_
    refine va_last (D := (dC, dI)) (cl := kCl) (pc := 15) hx hb hK hP hD hS 0 0 rfl rfl (vp_in_nI (nlt_of (b := 8) h1 (by omega)) (by decide)) dA_fillJ_15 (fun H locs hP hD hS => ?_)
    have hP : va_P (dC, dI) kCl [(ar, .inl (cF, 8, .inr (.inl (vp_updL g1 ((nI i) : Int32).toNatClampNeg va))))] H := hP
    have hD : va_D A [(ar, .inl (cF, 8, .inr (.inl (vp_updL g1 ((nI i) : Int32).toNatClampNeg va))))] := hD
    refine lv_iinc (pc := 16) (v := (nI (i + 1))) hx hb dA_fillJ_16 hl (k := 1) rfl (nI_1 _) (by decide) rfl (fun ls hl => ?_)
    have hl : lv_has ls 5 [(3, .int (nI (i + 1))), (4, .int 8), (0, .ref ar), (1, .long va)] := hl
    refine lv_goto (pc := 19) (tgt := 6) hx hb dA_fillJ_19 rfl ?_
    have hl := lv_sub hl (l' := [(4, .int 8), (3, .int (nI (i + 1))), (0, .ref ar), (1, .long va)]) [1, 0, 2, 3] rfl
    exact ih (i + 1, _, H, _, ls) ⟨hP, hD, hS, hl, (nlt_of (b := 8) h1 (by omega)), c_fl_sL (by omega) hg1⟩ (by have := nlt_of (b := 8) h1 (by omega); omega)
set_option maxHeartbeats 4000000 in
set_option maxRecDepth 100000 in
theorem ga_fillI (l : Launch) (dC : Nat → ClassId) (dI : Nat → Nat → Nat) (sz : Nat) (ar : Nat) (cF : ClassId) (fa : Nat → Int32) (va : Int32) : Met l yA_fillI (.code yA_fillI cA_fillI 4 none :: aw) ({ frames := 0, cells := 0, slots := 0, locals := 0 }) (pW (dC, dI) sz [(ar, .inl (cF, 24, .inl fa))] [(cF, .int)] [.ref ar, .int va]) (va_Qv (fun (_ : Unit) => True) (fun _ t => wW (dC, dI) (va_A [(ar, .inl (cF, 24, .inl fa))] sz) [(ar, .inl (cF, 24, .inl (c_fl fa va 24)))] [(cF, .int)] t) (va_A [(ar, .inl (cF, 24, .inl fa))] sz)) 0 0 (va_A [(ar, .inl (cF, 24, .inl fa))] sz) := by
  refine Met.ofW (cc := cA_fillI) (maxL := 4) (ret := none) (by decide) rfl ?_
  intro p e s m args below meth c s₁ B hml hv
  obtain ⟨rfl, hv⟩ := hv
  have hx := B.exec
  have hb := B.bytes
  have hr := B.returns
  have hts : ∀ w ∈ aw, w.before _ s = true := fun w h => atoms_spec (ws := (.code yA_fillI cA_fillI 4 none :: aw)) B.pre w (List.mem_cons_of_mem _ h)
  have hown : s.vm.findClass RA = some m.cls := findClass_of_methodNamed B.named
  have hlocks := B.notSynchronized
  obtain ⟨hsz, hP, hK, hD0, hG⟩ := hv
  subst hsz
  have hD := hD0.self (sz := s.heap.size)
  generalize hAe : va_A [(ar, .inl (cF, 24, .inl fa))] s.heap.size = A at hD ⊢
  have hA : ∀ q : Nat, s.heap.size ≤ q → A q := fun q h => by rw [← hAe]; exact Or.inr h
  obtain ⟨H, hH⟩ : ∃ H, H = s.heap := ⟨_, rfl⟩
  have hS : va_S A s.heap H [] := by rw [hH]; exact va_S.rf
  rw [← hH] at hP ⊢
  have hP : va_P (dC, dI) kCl [(ar, .inl (cF, 24, .inl fa))] H := hP
  have hl := lv_entry ([.ref ar, .int va]) (n := 4) (Nat.le_of_ble_eq_true rfl)
  rw [lg_entry_eq]
  generalize (lg_sl ([.ref ar, .int va]) ++ List.replicate (4 - (lg_sl ([.ref ar, .int va])).length) Slot.unset).toArray = ls at hl ⊢
  have hl : lv_has ls 4 [(0, .ref ar), (1, .int va)] := hl
  refine lv_iconst (pc := 0) (v := 0) hx hb dA_fillI_0 (by decide) ?_
  refine lv_istore_n (pc := 1) hx hb dA_fillI_1 rfl hl (by decide) rfl (fun ls hl => ?_)
  have hl : lv_has ls 4 [(2, .int 0), (0, .ref ar), (1, .int va)] := hl
  refine lv_aload_n (pc := 2) hx hb dA_fillI_2 rfl (lv_at hl 1 rfl) ?_
  refine va_alen (D := (dC, dI)) (cl := kCl) (pc := 3) (v := 24) hx hb hK hP 0 0 rfl rfl rfl dA_fillI_3 ?_
  refine lv_istore_n (pc := 4) hx hb dA_fillI_4 rfl hl (by decide) rfl (fun ls hl => ?_)
  have hl : lv_has ls 4 [(3, .int 24), (2, .int 0), (0, .ref ar), (1, .int va)] := hl
  refine lpM (σ := (Nat) × (Nat → Int32) × (Heap) × (List Loc) × (Array Slot)) (fun z => W p l e _ s m _ below meth c z.2.2.1 z.2.2.2.1 0 0 _ (F0 m 5 z.2.2.2.2 [])) (fun z => va_P (dC, dI) kCl [(ar, .inl (cF, 24, .inl z.2.1))] z.2.2.1 ∧ va_D A [(ar, .inl (cF, 24, .inl z.2.1))] ∧ va_S A s.heap z.2.2.1 z.2.2.2.1 ∧ lv_has z.2.2.2.2 4 [(3, .int 24), (2, .int (nI z.1)), (0, .ref ar), (1, .int va)] ∧ (z.1 ≤ 24) ∧ (z.2.1 = c_fl fa va z.1)) (fun z => 24 - z.1) ?_ (0, fa, H, _, ls) ⟨hP, hD, hS, hl, Nat.zero_le _, c_fl_0 _ _⟩
  rintro ⟨i, g1, H, locs, ls⟩ ⟨hP, hD, hS, hl, hi, hg1⟩ ih
  try dsimp only at hP hD hS hl hi hg1 ih ⊢
  have hP : va_P (dC, dI) kCl [(ar, .inl (cF, 24, .inl g1))] H := hP
  have hD : va_D A [(ar, .inl (cF, 24, .inl g1))] := hD
  have hl : lv_has ls 4 [(3, .int 24), (2, .int (nI i)), (0, .ref ar), (1, .int va)] := hl
  have hi : i ≤ 24 := hi
  have hg1 : g1 = c_fl fa va i := hg1
  refine lv_iload_n (pc := 5) hx hb dA_fillI_5 rfl (lv_at hl 1 rfl) ?_
  refine lv_iload_n (pc := 6) hx hb dA_fillI_6 rfl (lv_at hl 0 rfl) ?_
  refine lv_icmp_ge (pc := 7) (tgt := 20) hx hb dA_fillI_7 rfl (fun h1 => ?_) (fun h1 => ?_)
  · obtain rfl : i = 24 := by have := nle_of (b := 24) h1 (by omega) (by omega); omega
    subst hg1
    have hP : va_P (dC, dI) kCl [(ar, .inl (cF, 24, .inl (c_fl fa va 24)))] H := hP
    have hD : va_D A [(ar, .inl (cF, 24, .inl (c_fl fa va 24)))] := hD
    have hP9 := hP.sub (ws' := [(ar, .inl (cF, 24, .inl (c_fl fa va 24)))]) [0] rfl
    have hD9 := hD.sub (ws' := [(ar, .inl (cF, 24, .inl (c_fl fa va 24)))]) [0] (by decide) rfl
    have hK9 := hK.sub (tys' := [(cF, .int)]) [0] rfl
    exact W.vret (pc := 20) hx hb hr (fun t ht hW => ⟨⟨(), rfl, trivial, by rw [ht]; exact hP9, va_K.moved hW.alike hK9, hD9⟩, hS.F ht⟩) hS.2.2 dA_fillI_20
  · refine lv_aload_n (pc := 10) hx hb dA_fillI_10 rfl (lv_at hl 2 rfl) ?_
    refine lv_iload_n (pc := 11) hx hb dA_fillI_11 rfl (lv_at hl 1 rfl) ?_
    refine lv_iload_n (pc := 12) hx hb dA_fillI_12 rfl (lv_at hl 3 rfl) ?_
    refine va_iast (D := (dC, dI)) (cl := kCl) (pc := 13) hx hb hK hP hD hS 0 0 rfl rfl (vp_in_nI (nlt_of (b := 24) h1 (by omega)) (by decide)) dA_fillI_13 (fun H locs hP hD hS => ?_)
    have hP : va_P (dC, dI) kCl [(ar, .inl (cF, 24, .inl (upd g1 ((nI i) : Int32).toNatClampNeg va)))] H := hP
    have hD : va_D A [(ar, .inl (cF, 24, .inl (upd g1 ((nI i) : Int32).toNatClampNeg va)))] := hD
    refine lv_iinc (pc := 14) (v := (nI (i + 1))) hx hb dA_fillI_14 hl (k := 1) rfl (nI_1 _) (by decide) rfl (fun ls hl => ?_)
    have hl : lv_has ls 4 [(2, .int (nI (i + 1))), (3, .int 24), (0, .ref ar), (1, .int va)] := hl
    refine lv_goto (pc := 17) (tgt := 5) hx hb dA_fillI_17 rfl ?_
    have hl := lv_sub hl (l' := [(3, .int 24), (2, .int (nI (i + 1))), (0, .ref ar), (1, .int va)]) [1, 0, 2, 3] rfl
    exact ih (i + 1, _, H, _, ls) ⟨hP, hD, hS, hl, (nlt_of (b := 24) h1 (by omega)), c_fl_s (by omega) hg1⟩ (by have := nlt_of (b := 24) h1 (by omega); omega)
set_option maxHeartbeats 4000000 in
set_option maxRecDepth 100000 in
theorem c_clear (l : Launch) (dC : Nat → ClassId) (dI : Nat → Nat → Nat) (sz : Nat) (ct : Nat) (pc9 : Nat) (tg : Nat) (fx : Nat) (bi : Int32) (ri : Int32) (cP : ClassId) (fp : Nat → Int64) : Met l yC_clear (.code yC_clear cC_clear 1 none :: aw) ({ frames := 1, cells := 0, slots := 0, locals := 24 }) (pW (dC, dI) sz [(ct, .inr (5, [.ref pc9, .int bi, .ref tg, .ref fx, .int ri])), (pc9, .inl (cP, 8, .inr (.inl fp)))] [(cP, .long)] [.ref ct]) (va_Qv (fun (_ : Unit) => True) (fun _ t => wW (dC, dI) (va_A [(ct, .inr (5, [.ref pc9, .int bi, .ref tg, .ref fx, .int ri])), (pc9, .inl (cP, 8, .inr (.inl fp)))] sz) [(ct, .inr (5, [.ref pc9, .int 0, .ref tg, .ref fx, .int 0])), (pc9, .inl (cP, 8, .inr (.inl (c_fl fp 0 8))))] [(cP, .long)] t) (va_A [(ct, .inr (5, [.ref pc9, .int bi, .ref tg, .ref fx, .int ri])), (pc9, .inl (cP, 8, .inr (.inl fp)))] sz)) 0 0 (va_A [(ct, .inr (5, [.ref pc9, .int bi, .ref tg, .ref fx, .int ri])), (pc9, .inl (cP, 8, .inr (.inl fp)))] sz) := by
  refine Met.ofW (cc := cC_clear) (maxL := 1) (ret := none) (by decide) rfl ?_
  intro p e s m args below meth c s₁ B hml hv
  obtain ⟨rfl, hv⟩ := hv
  have hx := B.exec
  have hb := B.bytes
  have hr := B.returns
  have hts : ∀ w ∈ aw, w.before _ s = true := fun w h => atoms_spec (ws := (.code yC_clear cC_clear 1 none :: aw)) B.pre w (List.mem_cons_of_mem _ h)
  have hown : s.vm.findClass RC = some m.cls := findClass_of_methodNamed B.named
  have hlocks := B.notSynchronized
  obtain ⟨hsz, hP, hK, hD0, hG⟩ := hv
  subst hsz
  have hD := hD0.self (sz := s.heap.size)
  generalize hAe : va_A [(ct, .inr (5, [.ref pc9, .int bi, .ref tg, .ref fx, .int ri])), (pc9, .inl (cP, 8, .inr (.inl fp)))] s.heap.size = A at hD ⊢
  have hA : ∀ q : Nat, s.heap.size ≤ q → A q := fun q h => by rw [← hAe]; exact Or.inr h
  obtain ⟨H, hH⟩ : ∃ H, H = s.heap := ⟨_, rfl⟩
  have hS : va_S A s.heap H [] := by rw [hH]; exact va_S.rf
  rw [← hH] at hP ⊢
  have hP : va_P (dC, dI) kCl [(ct, .inr (5, [.ref pc9, .int bi, .ref tg, .ref fx, .int ri])), (pc9, .inl (cP, 8, .inr (.inl fp)))] H := hP
  have hl := lv_entry ([.ref ct]) (n := 1) (Nat.le_of_ble_eq_true rfl)
  rw [lg_entry_eq]
  generalize (lg_sl ([.ref ct]) ++ List.replicate (1 - (lg_sl ([.ref ct])).length) Slot.unset).toArray = ls at hl ⊢
  have hl : lv_has ls 1 [(0, .ref ct)] := hl
  refine lv_aload_n (pc := 0) hx hb dC_clear_0 rfl (lv_at hl 0 rfl) ?_
  refine va_get (D := (dC, dI)) (cl := kCl) (C := RC) (T := TC) (N := 5) (pc := 1) hx hb hts inC hown hK hP 0 rfl rfl 0 (by decide) (hts _ wd_47) (fun _ h9 => h9) rfl dC_clear_1 ?_
  refine lv_lconst (pc := 4) (v := 0) hx hb dC_clear_4 (by decide) ?_
  have hPc := hP.sub (ws' := [(pc9, .inl (cP, 8, .inr (.inl fp)))]) [1] rfl
  have hDc := hD.sub (ws' := [(pc9, .inl (cP, 8, .inr (.inl fp)))]) [1] (by decide) rfl
  have hKc := hK.sub (tys' := [(cP, .long)]) [0] rfl
  have hFc := va_free (wc := [(pc9, .inl (cP, 8, .inr (.inl fp)))]) hD hS hA [1] rfl
  refine va_callv (pc := 5) (va_runS (As := [.ref pc9, .long 0]) (rest := []) ⟨hx, hb, hml, hown, hts⟩ (ga_fillJ l dC dI H.size pc9 cP fp 0) (va_cwS 2 hts (gSU wd_86 wd_87 wd_88 wd_85) rfl rfl rfl (by decide +kernel) ⟨Nat.le_of_ble_eq_true rfl, Nat.le_of_ble_eq_true rfl⟩) ⟨pW_blind, pW_pre hPc hKc hDc hG⟩ rfl rfl hl.1 rfl (lv_room (Nat.le_of_ble_eq_true rfl)) dC_clear_5 ⟨Nat.le_of_ble_eq_true rfl, Nat.le_of_ble_eq_true rfl⟩) hS (fun q _ h => hFc q h) hFc (fun u t H1 locs ht hvm hr2 hB hz1 hk1 hS => ?_)
  obtain ⟨hP1, hK1, hD1⟩ := hB
  rw [ht] at hP1
  have hK1 := va_K.moved hvm.symm hK1
  obtain ⟨hP, hD⟩ := va_join (wr := [(ct, .inr (5, [.ref pc9, .int bi, .ref tg, .ref fx, .int ri]))]) (w1 := [(pc9, .inl (cP, 8, .inr (.inl (c_fl fp 0 8))))]) hP hD [1] [0] rfl rfl (by decide) (by decide) hk1 hFc hP1 hD1
  generalize H1 = H at hP hS ⊢
  have hP : va_P (dC, dI) kCl [(ct, .inr (5, [.ref pc9, .int bi, .ref tg, .ref fx, .int ri])), (pc9, .inl (cP, 8, .inr (.inl (c_fl fp 0 8))))] H := hP
  have hD : va_D A [(ct, .inr (5, [.ref pc9, .int bi, .ref tg, .ref fx, .int ri])), (pc9, .inl (cP, 8, .inr (.inl (c_fl fp 0 8))))] := hD
  refine W.widen (k := 0) (n := 0) (Nat.le_of_ble_eq_true rfl) (Nat.le_of_ble_eq_true rfl) ?_
  refine lv_aload_n (pc := 8) hx hb dC_clear_8 rfl (lv_at hl 0 rfl) ?_
  refine lv_iconst (pc := 9) (v := 0) hx hb dC_clear_9 (by decide) ?_
  refine va_put (D := (dC, dI)) (cl := kCl) (ci := 5) (v := .int 0) (ty := .int) (C := RC) (T := TC) (N := 5) (pc := 10) hx hb hts inC tyC tyC_ok nmC hown hK hP hD hS 0 rfl rfl 1 (by decide) (hts _ wd_45) (fun _ h9 => h9) rfl (by decide +kernel) rfl rfl (Nat.le_of_ble_eq_true rfl) dC_clear_10 (fun H locs hP hD hS => ?_)
  have hP : va_P (dC, dI) kCl [(ct, .inr (5, [.ref pc9, .int 0, .ref tg, .ref fx, .int ri])), (pc9, .inl (cP, 8, .inr (.inl (c_fl fp 0 8))))] H := hP
  have hD : va_D A [(ct, .inr (5, [.ref pc9, .int 0, .ref tg, .ref fx, .int ri])), (pc9, .inl (cP, 8, .inr (.inl (c_fl fp 0 8))))] := hD
  refine lv_aload_n (pc := 13) hx hb dC_clear_13 rfl (lv_at hl 0 rfl) ?_
  refine lv_iconst (pc := 14) (v := 0) hx hb dC_clear_14 (by decide) ?_
  refine va_put (D := (dC, dI)) (cl := kCl) (ci := 5) (v := .int 0) (ty := .int) (C := RC) (T := TC) (N := 5) (pc := 15) hx hb hts inC tyC tyC_ok nmC hown hK hP hD hS 0 rfl rfl 4 (by decide) (hts _ wd_46) (fun _ h9 => h9) rfl (by decide +kernel) rfl rfl (Nat.le_of_ble_eq_true rfl) dC_clear_15 (fun H locs hP hD hS => ?_)
  have hP : va_P (dC, dI) kCl [(ct, .inr (5, [.ref pc9, .int 0, .ref tg, .ref fx, .int 0])), (pc9, .inl (cP, 8, .inr (.inl (c_fl fp 0 8))))] H := hP
  have hD : va_D A [(ct, .inr (5, [.ref pc9, .int 0, .ref tg, .ref fx, .int 0])), (pc9, .inl (cP, 8, .inr (.inl (c_fl fp 0 8))))] := hD
  have hP9 := hP.sub (ws' := [(ct, .inr (5, [.ref pc9, .int 0, .ref tg, .ref fx, .int 0])), (pc9, .inl (cP, 8, .inr (.inl (c_fl fp 0 8))))]) [0, 1] rfl
  have hD9 := hD.sub (ws' := [(ct, .inr (5, [.ref pc9, .int 0, .ref tg, .ref fx, .int 0])), (pc9, .inl (cP, 8, .inr (.inl (c_fl fp 0 8))))]) [0, 1] (by decide) rfl
  have hK9 := hK.sub (tys' := [(cP, .long)]) [0] rfl
  exact W.vret (pc := 18) hx hb hr (fun t ht hW => ⟨⟨(), rfl, trivial, by rw [ht]; exact hP9, va_K.moved hW.alike hK9, hD9⟩, hS.F ht⟩) hS.2.2 dC_clear_18
set_option maxHeartbeats 4000000 in
set_option maxRecDepth 100000 in
theorem c_samePiece (l : Launch) (dC : Nat → ClassId) (dI : Nat → Nat → Nat) (ct : Nat) (pc9 : Nat) (tg : Nat) (fx : Nat) (bi : Int32) (ri : Int32) (cP : ClassId) (fp : Nat → Int64) (oc : Nat) (op9 : Nat) (og : Nat) (ox : Nat) (bo : Int32) (ro : Int32) (dP : ClassId) (gp : Nat → Int64) (pl : Int32) (hp8 : vp_in pl 8) : Met l yC_samePiece (.code yC_samePiece cC_samePiece 3 (some .boolean) :: aw) ({ frames := 2, cells := 0, slots := 0, locals := 36 }) (pR (dC, dI) [(ct, .inr (5, [.ref pc9, .int bi, .ref tg, .ref fx, .int ri])), (pc9, .inl (cP, 8, .inr (.inl fp))), (oc, .inr (5, [.ref op9, .int bo, .ref og, .ref ox, .int ro])), (op9, .inl (dP, 8, .inr (.inl gp)))] [(cP, .long), (dP, .long)] [.ref ct, .ref oc, .int pl]) (vp_Si (fun r => (r = 1 ∧ (c_len bi pl = c_len bo pl ∧ fp (pl : Int32).toNatClampNeg = gp (pl : Int32).toNatClampNeg)) ∨ (r = 0 ∧ (¬ (c_len bi pl = c_len bo pl ∧ fp (pl : Int32).toNatClampNeg = gp (pl : Int32).toNatClampNeg))))) 0 0 (fun _ => False) := by
  refine Met.ofW (cc := cC_samePiece) (maxL := 3) (ret := (some .boolean)) (by decide) rfl ?_
  intro p e s m args below meth c s₁ B hml hv
  obtain ⟨rfl, hv⟩ := hv
  have hx := B.exec
  have hb := B.bytes
  have hr := B.returns
  have hts : ∀ w ∈ aw, w.before _ s = true := fun w h => atoms_spec (ws := (.code yC_samePiece cC_samePiece 3 (some .boolean) :: aw)) B.pre w (List.mem_cons_of_mem _ h)
  have hown : s.vm.findClass RC = some m.cls := findClass_of_methodNamed B.named
  have hlocks := B.notSynchronized
  obtain ⟨hP, hK, hG⟩ := hv
  obtain ⟨H, hH⟩ : ∃ H, H = s.heap := ⟨_, rfl⟩
  rw [← hH] at hP ⊢
  have hl := lv_entry ([.ref ct, .ref oc, .int pl]) (n := 3) (Nat.le_of_ble_eq_true rfl)
  rw [lg_entry_eq]
  generalize (lg_sl ([.ref ct, .ref oc, .int pl]) ++ List.replicate (3 - (lg_sl ([.ref ct, .ref oc, .int pl])).length) Slot.unset).toArray = ls at hl ⊢
  have hl : lv_has ls 3 [(0, .ref ct), (1, .ref oc), (2, .int pl)] := hl
  refine lv_aload_n (pc := 0) hx hb dC_samePiece_0 rfl (lv_at hl 0 rfl) ?_
  refine lv_iload_n (pc := 1) hx hb dC_samePiece_1 rfl (lv_at hl 2 rfl) ?_
  refine vp_callSi (pc := 2) (W.runV (As := [.int pl]) (rest := []) ⟨hx, hb, hml, hown, hts⟩ (c_pieceLength l dC dI ct pc9 tg fx bi ri pl) (cwV 1 hts (gV wd_90 wd_91 wd_92 wd_51 wd_89) rfl rfl rfl (by decide +kernel) ⟨Nat.le_of_ble_eq_true rfl, Nat.le_of_ble_eq_true rfl⟩) ⟨pR_blind, va_recv (q := (RC, TC, 5)) (q0 := 0) (ci := 5) hK hP rfl rfl, pR_pre (hP.sub (ws' := [(ct, .inr (5, [.ref pc9, .int bi, .ref tg, .ref fx, .int ri]))]) [0] rfl) (hK.sub (tys' := []) [] rfl) hG⟩ rfl rfl hl.1 rfl (lv_room (Nat.le_of_ble_eq_true rfl)) dC_samePiece_2 ⟨Nat.le_of_ble_eq_true rfl, Nat.le_of_ble_eq_true rfl⟩) (fun r1 hr2 => ?_)
  obtain rfl : r1 = (c_len bi pl) := hr2
  refine lv_aload_n (pc := 5) hx hb dC_samePiece_5 rfl (lv_at hl 1 rfl) ?_
  refine lv_iload_n (pc := 6) hx hb dC_samePiece_6 rfl (lv_at hl 2 rfl) ?_
  refine vp_callSi (pc := 7) (W.runV (As := [.int pl]) (rest := [.int (c_len bi pl)]) ⟨hx, hb, hml, hown, hts⟩ (c_pieceLength l dC dI oc op9 og ox bo ro pl) (cwV 1 hts (gV wd_90 wd_91 wd_92 wd_51 wd_89) rfl rfl rfl (by decide +kernel) ⟨Nat.le_of_ble_eq_true rfl, Nat.le_of_ble_eq_true rfl⟩) ⟨pR_blind, va_recv (q := (RC, TC, 5)) (q0 := 2) (ci := 5) hK hP rfl rfl, pR_pre (hP.sub (ws' := [(oc, .inr (5, [.ref op9, .int bo, .ref og, .ref ox, .int ro]))]) [2] rfl) (hK.sub (tys' := []) [] rfl) hG⟩ rfl rfl hl.1 rfl (lv_room (Nat.le_of_ble_eq_true rfl)) dC_samePiece_7 ⟨Nat.le_of_ble_eq_true rfl, Nat.le_of_ble_eq_true rfl⟩) (fun r3 hr4 => ?_)
  obtain rfl : r3 = (c_len bo pl) := hr4
  refine lv_icmp_ne (pc := 10) (tgt := 33) hx hb dC_samePiece_10 rfl (fun h5 => ?_) (fun h5 => ?_)
  · refine lv_iconst (pc := 33) (v := 0) hx hb dC_samePiece_33 (by decide) ?_
    exact W.zret (pc := 34) hx hb hr rfl (fun t ht hW => ⟨_, rfl, (Or.inr ⟨rfl, fun q => h5 q.1⟩), ht.trans hH⟩) (fun q h => nomatch h) dC_samePiece_34
  · refine lv_aload_n (pc := 13) hx hb dC_samePiece_13 rfl (lv_at hl 0 rfl) ?_
    refine va_get (D := (dC, dI)) (cl := kCl) (C := RC) (T := TC) (N := 5) (pc := 14) hx hb hts inC hown hK hP 0 rfl rfl 0 (by decide) (hts _ wd_47) (fun _ h9 => h9) rfl dC_samePiece_14 ?_
    refine lv_iload_n (pc := 17) hx hb dC_samePiece_17 rfl (lv_at hl 2 rfl) ?_
    refine va_lald (D := (dC, dI)) (cl := kCl) (pc := 18) hx hb hK hP 1 0 rfl rfl (hp8) dC_samePiece_18 ?_
    refine W.eq (g2 := F0 m 19 ls [.long (fp (pl : Int32).toNatClampNeg)]) rfl ?_
    refine lv_aload_n (pc := 19) hx hb dC_samePiece_19 rfl (lv_at hl 1 rfl) ?_
    refine va_get (D := (dC, dI)) (cl := kCl) (C := RC) (T := TC) (N := 5) (pc := 20) hx hb hts inC hown hK hP 2 rfl rfl 0 (by decide) (hts _ wd_47) (fun _ h9 => h9) rfl dC_samePiece_20 ?_
    refine lv_iload_n (pc := 23) hx hb dC_samePiece_23 rfl (lv_at hl 2 rfl) ?_
    refine va_lald (D := (dC, dI)) (cl := kCl) (pc := 24) hx hb hK hP 3 1 rfl rfl (hp8) dC_samePiece_24 ?_
    refine W.eq (g2 := F0 m 25 ls [.long (gp (pl : Int32).toNatClampNeg), .long (fp (pl : Int32).toNatClampNeg)]) rfl ?_
    refine W.lcmp (pc := 25) hx hb dC_samePiece_25 ?_
    refine lv_if_ne (pc := 26) (tgt := 33) hx hb dC_samePiece_26 rfl (fun h6 => ?_) (fun h6 => ?_)
    · refine lv_iconst (pc := 33) (v := 0) hx hb dC_samePiece_33 (by decide) ?_
      exact W.zret (pc := 34) hx hb hr rfl (fun t ht hW => ⟨_, rfl, (Or.inr ⟨rfl, fun q => h6 (cmp_0.mpr q.2)⟩), ht.trans hH⟩) (fun q h => nomatch h) dC_samePiece_34
    · refine lv_iconst (pc := 29) (v := 1) hx hb dC_samePiece_29 (by decide) ?_
      refine lv_goto (pc := 30) (tgt := 34) hx hb dC_samePiece_30 rfl ?_
      exact W.zret (pc := 34) hx hb hr rfl (fun t ht hW => ⟨_, rfl, (Or.inl ⟨rfl, h5, cmp_0.mp h6⟩), ht.trans hH⟩) (fun q h => nomatch h) dC_samePiece_34
set_option maxHeartbeats 4000000 in
set_option maxRecDepth 100000 in
theorem gb_pagesTaken (l : Launch) (dC : Nat → ClassId) (dI : Nat → Nat → Nat) (df : Nat) (dv : Nat) (do9 : Nat) (zs : Int32) : Met l yB_pagesTaken (.code yB_pagesTaken cB_pagesTaken 1 (some .int) :: aw) ({ frames := 0, cells := 0, slots := 0, locals := 0 }) (pR (dC, dI) [(df, .inr (1, [.ref dv, .ref do9, .int zs]))] [] [.ref df]) (vp_Si (fun r => r = (1 + (zs + 8 - 1) / 8))) 0 0 (fun _ => False) := by
  refine Met.ofW (cc := cB_pagesTaken) (maxL := 1) (ret := (some .int)) (by decide) rfl ?_
  intro p e s m args below meth c s₁ B hml hv
  obtain ⟨rfl, hv⟩ := hv
  have hx := B.exec
  have hb := B.bytes
  have hr := B.returns
  have hts : ∀ w ∈ aw, w.before _ s = true := fun w h => atoms_spec (ws := (.code yB_pagesTaken cB_pagesTaken 1 (some .int) :: aw)) B.pre w (List.mem_cons_of_mem _ h)
  have hown : s.vm.findClass RB = some m.cls := findClass_of_methodNamed B.named
  have hlocks := B.notSynchronized
  obtain ⟨hP, hK, hG⟩ := hv
  obtain ⟨H, hH⟩ : ∃ H, H = s.heap := ⟨_, rfl⟩
  rw [← hH] at hP ⊢
  have hl := lv_entry ([.ref df]) (n := 1) (Nat.le_of_ble_eq_true rfl)
  rw [lg_entry_eq]
  generalize (lg_sl ([.ref df]) ++ List.replicate (1 - (lg_sl ([.ref df])).length) Slot.unset).toArray = ls at hl ⊢
  have hl : lv_has ls 1 [(0, .ref df)] := hl
  refine lv_iconst (pc := 0) (v := 1) hx hb dB_pagesTaken_0 (by decide) ?_
  refine lv_aload_n (pc := 1) hx hb dB_pagesTaken_1 rfl (lv_at hl 0 rfl) ?_
  refine va_get (D := (dC, dI)) (cl := kCl) (C := RB) (T := TB) (N := 3) (pc := 2) hx hb hts inB hown hK hP 0 rfl rfl 2 (by decide) (hts _ wd_93) (fun _ h9 => h9) rfl dB_pagesTaken_2 ?_
  refine lv_bipush (pc := 5) (v := 8) hx hb dB_pagesTaken_5 (by decide) ?_
  refine lv_iadd (pc := 7) hx hb dB_pagesTaken_7 ?_
  refine lv_iconst (pc := 8) (v := 1) hx hb dB_pagesTaken_8 (by decide) ?_
  refine lv_isub (pc := 9) hx hb dB_pagesTaken_9 ?_
  refine lv_bipush (pc := 10) (v := 8) hx hb dB_pagesTaken_10 (by decide) ?_
  refine lv_idiv (pc := 12) hx hb dB_pagesTaken_12 (by decide) ?_
  refine lv_iadd (pc := 13) hx hb dB_pagesTaken_13 ?_
  exact W.iret (pc := 14) hx hb hr (fun t ht hW => ⟨_, rfl, rfl, ht.trans hH⟩) (fun q h => nomatch h) dB_pagesTaken_14
set_option maxHeartbeats 4000000 in
set_option maxRecDepth 100000 in
theorem gb_clear (l : Launch) (dC : Nat → ClassId) (dI : Nat → Nat → Nat) (sz : Nat) (df : Nat) (dv : Nat) (do9 : Nat) (cF : ClassId) (fv : Nat → Int32) (zs : Int32) : Met l yB_clear (.code yB_clear cB_clear 1 none :: aw) ({ frames := 1, cells := 0, slots := 0, locals := 23 }) (pW (dC, dI) sz [(df, .inr (1, [.ref dv, .ref do9, .int zs])), (dv, .inl (cF, 24, .inl fv))] [(cF, .int)] [.ref df]) (va_Qv (fun (_ : Unit) => True) (fun _ t => wW (dC, dI) (va_A [(df, .inr (1, [.ref dv, .ref do9, .int zs])), (dv, .inl (cF, 24, .inl fv))] sz) [(df, .inr (1, [.ref dv, .ref do9, .int 0])), (dv, .inl (cF, 24, .inl (c_fl fv (-1) 24)))] [(cF, .int)] t) (va_A [(df, .inr (1, [.ref dv, .ref do9, .int zs])), (dv, .inl (cF, 24, .inl fv))] sz)) 0 0 (va_A [(df, .inr (1, [.ref dv, .ref do9, .int zs])), (dv, .inl (cF, 24, .inl fv))] sz) := by
  refine Met.ofW (cc := cB_clear) (maxL := 1) (ret := none) (by decide) rfl ?_
  intro p e s m args below meth c s₁ B hml hv
  obtain ⟨rfl, hv⟩ := hv
  have hx := B.exec
  have hb := B.bytes
  have hr := B.returns
  have hts : ∀ w ∈ aw, w.before _ s = true := fun w h => atoms_spec (ws := (.code yB_clear cB_clear 1 none :: aw)) B.pre w (List.mem_cons_of_mem _ h)
  have hown : s.vm.findClass RB = some m.cls := findClass_of_methodNamed B.named
  have hlocks := B.notSynchronized
  obtain ⟨hsz, hP, hK, hD0, hG⟩ := hv
  subst hsz
  have hD := hD0.self (sz := s.heap.size)
  generalize hAe : va_A [(df, .inr (1, [.ref dv, .ref do9, .int zs])), (dv, .inl (cF, 24, .inl fv))] s.heap.size = A at hD ⊢
  have hA : ∀ q : Nat, s.heap.size ≤ q → A q := fun q h => by rw [← hAe]; exact Or.inr h
  obtain ⟨H, hH⟩ : ∃ H, H = s.heap := ⟨_, rfl⟩
  have hS : va_S A s.heap H [] := by rw [hH]; exact va_S.rf
  rw [← hH] at hP ⊢
  have hP : va_P (dC, dI) kCl [(df, .inr (1, [.ref dv, .ref do9, .int zs])), (dv, .inl (cF, 24, .inl fv))] H := hP
  have hl := lv_entry ([.ref df]) (n := 1) (Nat.le_of_ble_eq_true rfl)
  rw [lg_entry_eq]
  generalize (lg_sl ([.ref df]) ++ List.replicate (1 - (lg_sl ([.ref df])).length) Slot.unset).toArray = ls at hl ⊢
  have hl : lv_has ls 1 [(0, .ref df)] := hl
  refine lv_aload_n (pc := 0) hx hb dB_clear_0 rfl (lv_at hl 0 rfl) ?_
  refine va_get (D := (dC, dI)) (cl := kCl) (C := RB) (T := TB) (N := 3) (pc := 1) hx hb hts inB hown hK hP 0 rfl rfl 0 (by decide) (hts _ wd_94) (fun _ h9 => h9) rfl dB_clear_1 ?_
  refine lv_iconst (pc := 4) (v := (-1)) hx hb dB_clear_4 (by decide) ?_
  have hPc := hP.sub (ws' := [(dv, .inl (cF, 24, .inl fv))]) [1] rfl
  have hDc := hD.sub (ws' := [(dv, .inl (cF, 24, .inl fv))]) [1] (by decide) rfl
  have hKc := hK.sub (tys' := [(cF, .int)]) [0] rfl
  have hFc := va_free (wc := [(dv, .inl (cF, 24, .inl fv))]) hD hS hA [1] rfl
  refine va_callv (pc := 5) (va_runS (As := [.ref dv, .int (-1)]) (rest := []) ⟨hx, hb, hml, hown, hts⟩ (ga_fillI l dC dI H.size dv cF fv (-1)) (va_cwS 2 hts (gSU wd_96 wd_97 wd_88 wd_95) rfl rfl rfl (by decide +kernel) ⟨Nat.le_of_ble_eq_true rfl, Nat.le_of_ble_eq_true rfl⟩) ⟨pW_blind, pW_pre hPc hKc hDc hG⟩ rfl rfl hl.1 rfl (lv_room (Nat.le_of_ble_eq_true rfl)) dB_clear_5 ⟨Nat.le_of_ble_eq_true rfl, Nat.le_of_ble_eq_true rfl⟩) hS (fun q _ h => hFc q h) hFc (fun u t H1 locs ht hvm hr2 hB hz1 hk1 hS => ?_)
  obtain ⟨hP1, hK1, hD1⟩ := hB
  rw [ht] at hP1
  have hK1 := va_K.moved hvm.symm hK1
  obtain ⟨hP, hD⟩ := va_join (wr := [(df, .inr (1, [.ref dv, .ref do9, .int zs]))]) (w1 := [(dv, .inl (cF, 24, .inl (c_fl fv (-1) 24)))]) hP hD [1] [0] rfl rfl (by decide) (by decide) hk1 hFc hP1 hD1
  generalize H1 = H at hP hS ⊢
  have hP : va_P (dC, dI) kCl [(df, .inr (1, [.ref dv, .ref do9, .int zs])), (dv, .inl (cF, 24, .inl (c_fl fv (-1) 24)))] H := hP
  have hD : va_D A [(df, .inr (1, [.ref dv, .ref do9, .int zs])), (dv, .inl (cF, 24, .inl (c_fl fv (-1) 24)))] := hD
  refine W.widen (k := 0) (n := 0) (Nat.le_of_ble_eq_true rfl) (Nat.le_of_ble_eq_true rfl) ?_
  refine lv_aload_n (pc := 8) hx hb dB_clear_8 rfl (lv_at hl 0 rfl) ?_
  refine lv_iconst (pc := 9) (v := 0) hx hb dB_clear_9 (by decide) ?_
  refine va_put (D := (dC, dI)) (cl := kCl) (ci := 1) (v := .int 0) (ty := .int) (C := RB) (T := TB) (N := 3) (pc := 10) hx hb hts inB tyB tyB_ok nmB hown hK hP hD hS 0 rfl rfl 2 (by decide) (hts _ wd_93) (fun _ h9 => h9) rfl (by decide +kernel) rfl rfl (Nat.le_of_ble_eq_true rfl) dB_clear_10 (fun H locs hP hD hS => ?_)
  have hP : va_P (dC, dI) kCl [(df, .inr (1, [.ref dv, .ref do9, .int 0])), (dv, .inl (cF, 24, .inl (c_fl fv (-1) 24)))] H := hP
  have hD : va_D A [(df, .inr (1, [.ref dv, .ref do9, .int 0])), (dv, .inl (cF, 24, .inl (c_fl fv (-1) 24)))] := hD
  have hP9 := hP.sub (ws' := [(df, .inr (1, [.ref dv, .ref do9, .int 0])), (dv, .inl (cF, 24, .inl (c_fl fv (-1) 24)))]) [0, 1] rfl
  have hD9 := hD.sub (ws' := [(df, .inr (1, [.ref dv, .ref do9, .int 0])), (dv, .inl (cF, 24, .inl (c_fl fv (-1) 24)))]) [0, 1] (by decide) rfl
  have hK9 := hK.sub (tys' := [(cF, .int)]) [0] rfl
  exact W.vret (pc := 13) hx hb hr (fun t ht hW => ⟨⟨(), rfl, trivial, by rw [ht]; exact hP9, va_K.moved hW.alike hK9, hD9⟩, hS.F ht⟩) hS.2.2 dB_clear_13
set_option maxHeartbeats 4000000 in
set_option maxRecDepth 100000 in
theorem gb_init (l : Launch) (dC : Nat → ClassId) (dI : Nat → Nat → Nat) (sz : Nat) (df : Nat) : Met l yB_init (.code yB_init cB_init 1 none :: aw) ({ frames := 1, cells := 2, slots := 48, locals := 23 }) (pW (dC, dI) sz [(df, .inr (1, [.null, .null, .int 0]))] [] [.ref df]) (va_Qv (fun (_ : Unit) => True) (fun _ t => ∃ (dv : Nat) (do9 : Nat) (cF : ClassId) (cO : ClassId), wW (dC, dI) (va_A [(df, .inr (1, [.null, .null, .int 0]))] sz) [(df, .inr (1, [.ref dv, .ref do9, .int 0])), (dv, .inl (cF, 24, .inl (c_fl (fun _ => 0) (-1) 24))), (do9, .inl (cO, 24, .inl (fun _ => 0)))] [(cF, .int), (cO, .int)] t) (va_A [(df, .inr (1, [.null, .null, .int 0]))] sz)) 2 48 (va_A [(df, .inr (1, [.null, .null, .int 0]))] sz) := by
  refine Met.ofW (cc := cB_init) (maxL := 1) (ret := none) (by decide) rfl ?_
  intro p e s m args below meth c s₁ B hml hv
  obtain ⟨rfl, hv⟩ := hv
  have hx := B.exec
  have hb := B.bytes
  have hr := B.returns
  have hts : ∀ w ∈ aw, w.before _ s = true := fun w h => atoms_spec (ws := (.code yB_init cB_init 1 none :: aw)) B.pre w (List.mem_cons_of_mem _ h)
  have hown : s.vm.findClass RB = some m.cls := findClass_of_methodNamed B.named
  have hlocks := B.notSynchronized
  have hin : meth.name = "<init>" := (name_of_methodNamed B.named B.method).1
  obtain ⟨hsz, hP, hK, hD0, hG⟩ := hv
  subst hsz
  have hD := hD0.self (sz := s.heap.size)
  generalize hAe : va_A [(df, .inr (1, [.null, .null, .int 0]))] s.heap.size = A at hD ⊢
  have hA : ∀ q : Nat, s.heap.size ≤ q → A q := fun q h => by rw [← hAe]; exact Or.inr h
  obtain ⟨H, hH⟩ : ∃ H, H = s.heap := ⟨_, rfl⟩
  have hS : va_S A s.heap H [] := by rw [hH]; exact va_S.rf
  rw [← hH] at hP ⊢
  have hP : va_P (dC, dI) kCl [(df, .inr (1, [.null, .null, .int 0]))] H := hP
  have hl := lv_entry ([.ref df]) (n := 1) (Nat.le_of_ble_eq_true rfl)
  rw [lg_entry_eq]
  generalize (lg_sl ([.ref df]) ++ List.replicate (1 - (lg_sl ([.ref df])).length) Slot.unset).toArray = ls at hl ⊢
  have hl : lv_has ls 1 [(0, .ref df)] := hl
  refine lv_aload_n (pc := 0) hx hb dB_init_0 rfl (lv_at hl 0 rfl) ?_
  refine W.objInit hx hb hown (hts _ wd_98) (hts _ wd_68) (hts _ wd_69) rfl (by rw [hml]; exact hl.1) rfl dB_init_1 (Nat.le_of_ble_eq_true rfl) (Nat.le_of_ble_eq_true rfl) ?_
  refine W.eq (g2 := F0 m 4 ls []) rfl ?_
  refine lv_aload_n (pc := 4) hx hb dB_init_4 rfl (lv_at hl 0 rfl) ?_
  refine lv_bipush (pc := 5) (v := 24) hx hb dB_init_5 (by decide) ?_
  refine va_newa (atype := .int) (D := (dC, dI)) (cl := kCl) (pc := 7) (ty := .int) (n := 24) (N' := 24) (a0 := (24, .inl (fun _ => 0))) hx hb (hts _ wd_71) rfl hK hP hD hS hA (fun cA => rfl) (by decide) (by decide) (by decide) (Nat.le_of_ble_eq_true rfl) (Nat.le_of_ble_eq_true rfl) dB_init_7 (fun q1 cA2 H hK hP hD hS => ?_)
  have hP : va_P (dC, dI) kCl [(df, .inr (1, [.null, .null, .int 0])), (q1, .inl (cA2, 24, .inl (fun _ => 0)))] H := hP
  have hD : va_D A [(df, .inr (1, [.null, .null, .int 0])), (q1, .inl (cA2, 24, .inl (fun _ => 0)))] := hD
  have hK : va_K (dC, dI) kCl [(cA2, .int)] s := hK
  refine W.widen (k := 1) (n := 24) (Nat.le_of_ble_eq_true rfl) (Nat.le_of_ble_eq_true rfl) ?_
  refine va_putF (D := (dC, dI)) (cl := kCl) (ci := 1) (v := .ref q1) (ty := (.array .int)) (C := RB) (T := TB) (N := 3) (pc := 9) hx hb hts inB tyB tyB_ok nmB hown hK hP hD hS 0 rfl rfl 0 (by decide) (hts _ wd_94) (fun _ h9 => h9) rfl hin rfl (by decide +kernel) rfl rfl (Nat.le_of_ble_eq_true rfl) dB_init_9 (fun H locs hP hD hS => ?_)
  have hP : va_P (dC, dI) kCl [(df, .inr (1, [.ref q1, .null, .int 0])), (q1, .inl (cA2, 24, .inl (fun _ => 0)))] H := hP
  have hD : va_D A [(df, .inr (1, [.ref q1, .null, .int 0])), (q1, .inl (cA2, 24, .inl (fun _ => 0)))] := hD
  refine lv_aload_n (pc := 12) hx hb dB_init_12 rfl (lv_at hl 0 rfl) ?_
  refine lv_bipush (pc := 13) (v := 24) hx hb dB_init_13 (by decide) ?_
  refine va_newa (atype := .int) (D := (dC, dI)) (cl := kCl) (pc := 15) (ty := .int) (n := 24) (N' := 24) (a0 := (24, .inl (fun _ => 0))) hx hb (hts _ wd_71) rfl hK hP hD hS hA (fun cA => rfl) (by decide) (by decide) (by decide) (Nat.le_of_ble_eq_true rfl) (Nat.le_of_ble_eq_true rfl) dB_init_15 (fun q3 cA4 H hK hP hD hS => ?_)
  have hP : va_P (dC, dI) kCl [(df, .inr (1, [.ref q1, .null, .int 0])), (q1, .inl (cA2, 24, .inl (fun _ => 0))), (q3, .inl (cA4, 24, .inl (fun _ => 0)))] H := hP
  have hD : va_D A [(df, .inr (1, [.ref q1, .null, .int 0])), (q1, .inl (cA2, 24, .inl (fun _ => 0))), (q3, .inl (cA4, 24, .inl (fun _ => 0)))] := hD
  have hK : va_K (dC, dI) kCl [(cA2, .int), (cA4, .int)] s := hK
  refine W.widen (k := 2) (n := 48) (Nat.le_of_ble_eq_true rfl) (Nat.le_of_ble_eq_true rfl) ?_
  refine va_putF (D := (dC, dI)) (cl := kCl) (ci := 1) (v := .ref q3) (ty := (.array .int)) (C := RB) (T := TB) (N := 3) (pc := 17) hx hb hts inB tyB tyB_ok nmB hown hK hP hD hS 0 rfl rfl 1 (by decide) (hts _ wd_99) (fun _ h9 => h9) rfl hin rfl (by decide +kernel) rfl rfl (Nat.le_of_ble_eq_true rfl) dB_init_17 (fun H locs hP hD hS => ?_)
  have hP : va_P (dC, dI) kCl [(df, .inr (1, [.ref q1, .ref q3, .int 0])), (q1, .inl (cA2, 24, .inl (fun _ => 0))), (q3, .inl (cA4, 24, .inl (fun _ => 0)))] H := hP
  have hD : va_D A [(df, .inr (1, [.ref q1, .ref q3, .int 0])), (q1, .inl (cA2, 24, .inl (fun _ => 0))), (q3, .inl (cA4, 24, .inl (fun _ => 0)))] := hD
  refine lv_aload_n (pc := 20) hx hb dB_init_20 rfl (lv_at hl 0 rfl) ?_
  refine va_get (D := (dC, dI)) (cl := kCl) (C := RB) (T := TB) (N := 3) (pc := 21) hx hb hts inB hown hK hP 0 rfl rfl 0 (by decide) (hts _ wd_94) (fun _ h9 => h9) rfl dB_init_21 ?_
  refine lv_iconst (pc := 24) (v := (-1)) hx hb dB_init_24 (by decide) ?_
  have hPc := hP.sub (ws' := [(q1, .inl (cA2, 24, .inl (fun _ => 0)))]) [1] rfl
  have hDc := hD.sub (ws' := [(q1, .inl (cA2, 24, .inl (fun _ => 0)))]) [1] (by decide) rfl
  have hKc := hK.sub (tys' := [(cA2, .int)]) [0] rfl
  have hFc := va_free (wc := [(q1, .inl (cA2, 24, .inl (fun _ => 0)))]) hD hS hA [1] rfl
  refine va_callv (pc := 25) (va_runS (As := [.ref q1, .int (-1)]) (rest := []) ⟨hx, hb, hml, hown, hts⟩ (ga_fillI l dC dI H.size q1 cA2 (fun _ => 0) (-1)) (va_cwS 2 hts (gSU wd_96 wd_97 wd_88 wd_95) rfl rfl rfl (by decide +kernel) ⟨Nat.le_of_ble_eq_true rfl, Nat.le_of_ble_eq_true rfl⟩) ⟨pW_blind, pW_pre hPc hKc hDc hG⟩ rfl rfl hl.1 rfl (lv_room (Nat.le_of_ble_eq_true rfl)) dB_init_25 ⟨Nat.le_of_ble_eq_true rfl, Nat.le_of_ble_eq_true rfl⟩) hS (fun q _ h => hFc q h) hFc (fun u t H1 locs ht hvm hr6 hB hz1 hk1 hS => ?_)
  obtain ⟨hP1, hK1, hD1⟩ := hB
  rw [ht] at hP1
  have hK1 := va_K.moved hvm.symm hK1
  obtain ⟨hP, hD⟩ := va_join (wr := [(df, .inr (1, [.ref q1, .ref q3, .int 0])), (q3, .inl (cA4, 24, .inl (fun _ => 0)))]) (w1 := [(q1, .inl (cA2, 24, .inl (c_fl (fun _ => 0) (-1) 24)))]) hP hD [1] [0, 2] rfl rfl (by decide) (by decide) hk1 hFc hP1 hD1
  generalize H1 = H at hP hS ⊢
  have hP : va_P (dC, dI) kCl [(df, .inr (1, [.ref q1, .ref q3, .int 0])), (q3, .inl (cA4, 24, .inl (fun _ => 0))), (q1, .inl (cA2, 24, .inl (c_fl (fun _ => 0) (-1) 24)))] H := hP
  have hD : va_D A [(df, .inr (1, [.ref q1, .ref q3, .int 0])), (q3, .inl (cA4, 24, .inl (fun _ => 0))), (q1, .inl (cA2, 24, .inl (c_fl (fun _ => 0) (-1) 24)))] := hD
  refine W.widen (k := 2) (n := 48) (Nat.le_of_ble_eq_true rfl) (Nat.le_of_ble_eq_true rfl) ?_
  have hP9 := hP.sub (ws' := [(df, .inr (1, [.ref q1, .ref q3, .int 0])), (q1, .inl (cA2, 24, .inl (c_fl (fun _ => 0) (-1) 24))), (q3, .inl (cA4, 24, .inl (fun _ => 0)))]) [0, 2, 1] rfl
  have hD9 := hD.sub (ws' := [(df, .inr (1, [.ref q1, .ref q3, .int 0])), (q1, .inl (cA2, 24, .inl (c_fl (fun _ => 0) (-1) 24))), (q3, .inl (cA4, 24, .inl (fun _ => 0)))]) [0, 2, 1] (by decide) rfl
  have hK9 := hK.sub (tys' := [(cA2, .int), (cA4, .int)]) [0, 1] rfl
  exact W.vret (pc := 28) hx hb hr (fun t ht hW => ⟨⟨(), rfl, trivial, q1, q3, cA2, cA4, by rw [ht]; exact hP9, va_K.moved hW.alike hK9, hD9⟩, hS.F ht⟩) hS.2.2 dB_init_28
set_option maxHeartbeats 4000000 in
set_option maxRecDepth 100000 in
theorem gp_init (l : Launch) (dC : Nat → ClassId) (dI : Nat → Nat → Nat) (sz : Nat) (pg : Nat) : Met l yP_init (.code yP_init cP_init 1 none :: aw) ({ frames := 1, cells := 0, slots := 0, locals := 12 }) (pW (dC, dI) sz [(pg, .inr (3, [.int 0, .int 0, .int 0, .int 0, .int 0, .int 0]))] [] [.ref pg]) (va_Qv (fun (_ : Unit) => True) (fun _ t => wW (dC, dI) (va_A [(pg, .inr (3, [.int 0, .int 0, .int 0, .int 0, .int 0, .int 0]))] sz) [(pg, .inr (3, [.int 400, .int 0, .int 0, .int 0, .int 0, .int 0]))] [] t) (va_A [(pg, .inr (3, [.int 0, .int 0, .int 0, .int 0, .int 0, .int 0]))] sz)) 0 0 (va_A [(pg, .inr (3, [.int 0, .int 0, .int 0, .int 0, .int 0, .int 0]))] sz) := by
  refine Met.ofW (cc := cP_init) (maxL := 1) (ret := none) (by decide) rfl ?_
  intro p e s m args below meth c s₁ B hml hv
  obtain ⟨rfl, hv⟩ := hv
  have hx := B.exec
  have hb := B.bytes
  have hr := B.returns
  have hts : ∀ w ∈ aw, w.before _ s = true := fun w h => atoms_spec (ws := (.code yP_init cP_init 1 none :: aw)) B.pre w (List.mem_cons_of_mem _ h)
  have hown : s.vm.findClass RP = some m.cls := findClass_of_methodNamed B.named
  have hlocks := B.notSynchronized
  have hin : meth.name = "<init>" := (name_of_methodNamed B.named B.method).1
  obtain ⟨hsz, hP, hK, hD0, hG⟩ := hv
  subst hsz
  have hD := hD0.self (sz := s.heap.size)
  generalize hAe : va_A [(pg, .inr (3, [.int 0, .int 0, .int 0, .int 0, .int 0, .int 0]))] s.heap.size = A at hD ⊢
  have hA : ∀ q : Nat, s.heap.size ≤ q → A q := fun q h => by rw [← hAe]; exact Or.inr h
  obtain ⟨H, hH⟩ : ∃ H, H = s.heap := ⟨_, rfl⟩
  have hS : va_S A s.heap H [] := by rw [hH]; exact va_S.rf
  rw [← hH] at hP ⊢
  have hP : va_P (dC, dI) kCl [(pg, .inr (3, [.int 0, .int 0, .int 0, .int 0, .int 0, .int 0]))] H := hP
  have hl := lv_entry ([.ref pg]) (n := 1) (Nat.le_of_ble_eq_true rfl)
  rw [lg_entry_eq]
  generalize (lg_sl ([.ref pg]) ++ List.replicate (1 - (lg_sl ([.ref pg])).length) Slot.unset).toArray = ls at hl ⊢
  have hl : lv_has ls 1 [(0, .ref pg)] := hl
  refine lv_aload_n (pc := 0) hx hb dP_init_0 rfl (lv_at hl 0 rfl) ?_
  refine W.objInit hx hb hown (hts _ wd_100) (hts _ wd_68) (hts _ wd_69) rfl (by rw [hml]; exact hl.1) rfl dP_init_1 (Nat.le_of_ble_eq_true rfl) (Nat.le_of_ble_eq_true rfl) ?_
  refine W.eq (g2 := F0 m 4 ls []) rfl ?_
  refine lv_aload_n (pc := 4) hx hb dP_init_4 rfl (lv_at hl 0 rfl) ?_
  refine lv_sipush (pc := 5) (v := 400) hx hb dP_init_5 (by decide) ?_
  refine va_put (D := (dC, dI)) (cl := kCl) (ci := 3) (v := .int 400) (ty := .int) (C := RP) (T := TP) (N := 6) (pc := 8) hx hb hts inP tyP tyP_ok nmP hown hK hP hD hS 0 rfl rfl 0 (by decide) (hts _ wd_75) (fun _ h9 => h9) rfl (by decide +kernel) rfl rfl (Nat.le_of_ble_eq_true rfl) dP_init_8 (fun H locs hP hD hS => ?_)
  have hP : va_P (dC, dI) kCl [(pg, .inr (3, [.int 400, .int 0, .int 0, .int 0, .int 0, .int 0]))] H := hP
  have hD : va_D A [(pg, .inr (3, [.int 400, .int 0, .int 0, .int 0, .int 0, .int 0]))] := hD
  have hP9 := hP.sub (ws' := [(pg, .inr (3, [.int 400, .int 0, .int 0, .int 0, .int 0, .int 0]))]) [0] rfl
  have hD9 := hD.sub (ws' := [(pg, .inr (3, [.int 400, .int 0, .int 0, .int 0, .int 0, .int 0]))]) [0] (by decide) rfl
  have hK9 := hK.sub (tys' := []) [] rfl
  exact W.vret (pc := 11) hx hb hr (fun t ht hW => ⟨⟨(), rfl, trivial, by rw [ht]; exact hP9, va_K.moved hW.alike hK9, hD9⟩, hS.F ht⟩) hS.2.2 dP_init_11
set_option maxHeartbeats 4000000 in
set_option maxRecDepth 100000 in
theorem gk_init (l : Launch) (dC : Nat → ClassId) (dI : Nat → Nat → Nat) (sz : Nat) (ch : Nat) : Met l yK_init (.code yK_init cK_init 1 none :: aw) ({ frames := 1, cells := 2, slots := 1984, locals := 12 }) (pW (dC, dI) sz [(ch, .inr (2, [.null, .null, .int 0]))] [] [.ref ch]) (va_Qv (fun (_ : Unit) => True) (fun _ t => ∃ (cp : Nat) (cn : Nat) (cP : ClassId) (cL : ClassId), wW (dC, dI) (va_A [(ch, .inr (2, [.null, .null, .int 0]))] sz) [(ch, .inr (2, [.ref cp, .ref cn, .int 0])), (cp, .inl (cP, 992, .inr (.inl (fun _ => 0)))), (cn, .inl (cL, 992, .inl (fun _ => 0)))] [(cP, .long), (cL, .byte)] t) (va_A [(ch, .inr (2, [.null, .null, .int 0]))] sz)) 2 1984 (va_A [(ch, .inr (2, [.null, .null, .int 0]))] sz) := by
  refine Met.ofW (cc := cK_init) (maxL := 1) (ret := none) (by decide) rfl ?_
  intro p e s m args below meth c s₁ B hml hv
  obtain ⟨rfl, hv⟩ := hv
  have hx := B.exec
  have hb := B.bytes
  have hr := B.returns
  have hts : ∀ w ∈ aw, w.before _ s = true := fun w h => atoms_spec (ws := (.code yK_init cK_init 1 none :: aw)) B.pre w (List.mem_cons_of_mem _ h)
  have hown : s.vm.findClass RK = some m.cls := findClass_of_methodNamed B.named
  have hlocks := B.notSynchronized
  have hin : meth.name = "<init>" := (name_of_methodNamed B.named B.method).1
  obtain ⟨hsz, hP, hK, hD0, hG⟩ := hv
  subst hsz
  have hD := hD0.self (sz := s.heap.size)
  generalize hAe : va_A [(ch, .inr (2, [.null, .null, .int 0]))] s.heap.size = A at hD ⊢
  have hA : ∀ q : Nat, s.heap.size ≤ q → A q := fun q h => by rw [← hAe]; exact Or.inr h
  obtain ⟨H, hH⟩ : ∃ H, H = s.heap := ⟨_, rfl⟩
  have hS : va_S A s.heap H [] := by rw [hH]; exact va_S.rf
  rw [← hH] at hP ⊢
  have hP : va_P (dC, dI) kCl [(ch, .inr (2, [.null, .null, .int 0]))] H := hP
  have hl := lv_entry ([.ref ch]) (n := 1) (Nat.le_of_ble_eq_true rfl)
  rw [lg_entry_eq]
  generalize (lg_sl ([.ref ch]) ++ List.replicate (1 - (lg_sl ([.ref ch])).length) Slot.unset).toArray = ls at hl ⊢
  have hl : lv_has ls 1 [(0, .ref ch)] := hl
  refine lv_aload_n (pc := 0) hx hb dK_init_0 rfl (lv_at hl 0 rfl) ?_
  refine W.objInit hx hb hown (hts _ wd_101) (hts _ wd_68) (hts _ wd_69) rfl (by rw [hml]; exact hl.1) rfl dK_init_1 (Nat.le_of_ble_eq_true rfl) (Nat.le_of_ble_eq_true rfl) ?_
  refine W.eq (g2 := F0 m 4 ls []) rfl ?_
  refine lv_aload_n (pc := 4) hx hb dK_init_4 rfl (lv_at hl 0 rfl) ?_
  refine lv_sipush (pc := 5) (v := 992) hx hb dK_init_5 (by decide) ?_
  refine va_newa (atype := .long) (D := (dC, dI)) (cl := kCl) (pc := 8) (ty := .long) (n := 992) (N' := 992) (a0 := (992, .inr (.inl (fun _ => 0)))) hx hb (hts _ wd_70) rfl hK hP hD hS hA (fun cA => rfl) (by decide) (by decide) (by decide) (Nat.le_of_ble_eq_true rfl) (Nat.le_of_ble_eq_true rfl) dK_init_8 (fun q1 cA2 H hK hP hD hS => ?_)
  have hP : va_P (dC, dI) kCl [(ch, .inr (2, [.null, .null, .int 0])), (q1, .inl (cA2, 992, .inr (.inl (fun _ => 0))))] H := hP
  have hD : va_D A [(ch, .inr (2, [.null, .null, .int 0])), (q1, .inl (cA2, 992, .inr (.inl (fun _ => 0))))] := hD
  have hK : va_K (dC, dI) kCl [(cA2, .long)] s := hK
  refine W.widen (k := 1) (n := 992) (Nat.le_of_ble_eq_true rfl) (Nat.le_of_ble_eq_true rfl) ?_
  refine va_putF (D := (dC, dI)) (cl := kCl) (ci := 2) (v := .ref q1) (ty := (.array .long)) (C := RK) (T := TK) (N := 3) (pc := 10) hx hb hts inK tyK tyK_ok nmK hown hK hP hD hS 0 rfl rfl 0 (by decide) (hts _ wd_102) (fun _ h9 => h9) rfl hin rfl (by decide +kernel) rfl rfl (Nat.le_of_ble_eq_true rfl) dK_init_10 (fun H locs hP hD hS => ?_)
  have hP : va_P (dC, dI) kCl [(ch, .inr (2, [.ref q1, .null, .int 0])), (q1, .inl (cA2, 992, .inr (.inl (fun _ => 0))))] H := hP
  have hD : va_D A [(ch, .inr (2, [.ref q1, .null, .int 0])), (q1, .inl (cA2, 992, .inr (.inl (fun _ => 0))))] := hD
  refine lv_aload_n (pc := 13) hx hb dK_init_13 rfl (lv_at hl 0 rfl) ?_
  refine lv_sipush (pc := 14) (v := 992) hx hb dK_init_14 (by decide) ?_
  refine va_newa (atype := .byte) (D := (dC, dI)) (cl := kCl) (pc := 17) (ty := .byte) (n := 992) (N' := 992) (a0 := (992, .inl (fun _ => 0))) hx hb (hts _ wd_103) rfl hK hP hD hS hA (fun cA => rfl) (by decide) (by decide) (by decide) (Nat.le_of_ble_eq_true rfl) (Nat.le_of_ble_eq_true rfl) dK_init_17 (fun q3 cA4 H hK hP hD hS => ?_)
  have hP : va_P (dC, dI) kCl [(ch, .inr (2, [.ref q1, .null, .int 0])), (q1, .inl (cA2, 992, .inr (.inl (fun _ => 0)))), (q3, .inl (cA4, 992, .inl (fun _ => 0)))] H := hP
  have hD : va_D A [(ch, .inr (2, [.ref q1, .null, .int 0])), (q1, .inl (cA2, 992, .inr (.inl (fun _ => 0)))), (q3, .inl (cA4, 992, .inl (fun _ => 0)))] := hD
  have hK : va_K (dC, dI) kCl [(cA2, .long), (cA4, .byte)] s := hK
  refine W.widen (k := 2) (n := 1984) (Nat.le_of_ble_eq_true rfl) (Nat.le_of_ble_eq_true rfl) ?_
  refine va_putF (D := (dC, dI)) (cl := kCl) (ci := 2) (v := .ref q3) (ty := (.array .byte)) (C := RK) (T := TK) (N := 3) (pc := 19) hx hb hts inK tyK tyK_ok nmK hown hK hP hD hS 0 rfl rfl 1 (by decide) (hts _ wd_104) (fun _ h9 => h9) rfl hin rfl (by decide +kernel) rfl rfl (Nat.le_of_ble_eq_true rfl) dK_init_19 (fun H locs hP hD hS => ?_)
  have hP : va_P (dC, dI) kCl [(ch, .inr (2, [.ref q1, .ref q3, .int 0])), (q1, .inl (cA2, 992, .inr (.inl (fun _ => 0)))), (q3, .inl (cA4, 992, .inl (fun _ => 0)))] H := hP
  have hD : va_D A [(ch, .inr (2, [.ref q1, .ref q3, .int 0])), (q1, .inl (cA2, 992, .inr (.inl (fun _ => 0)))), (q3, .inl (cA4, 992, .inl (fun _ => 0)))] := hD
  have hP9 := hP.sub (ws' := [(ch, .inr (2, [.ref q1, .ref q3, .int 0])), (q1, .inl (cA2, 992, .inr (.inl (fun _ => 0)))), (q3, .inl (cA4, 992, .inl (fun _ => 0)))]) [0, 1, 2] rfl
  have hD9 := hD.sub (ws' := [(ch, .inr (2, [.ref q1, .ref q3, .int 0])), (q1, .inl (cA2, 992, .inr (.inl (fun _ => 0)))), (q3, .inl (cA4, 992, .inl (fun _ => 0)))]) [0, 1, 2] (by decide) rfl
  have hK9 := hK.sub (tys' := [(cA2, .long), (cA4, .byte)]) [0, 1] rfl
  exact W.vret (pc := 22) hx hb hr (fun t ht hW => ⟨⟨(), rfl, trivial, q1, q3, cA2, cA4, by rw [ht]; exact hP9, va_K.moved hW.alike hK9, hD9⟩, hS.F ht⟩) hS.2.2 dK_init_22
set_option maxHeartbeats 4000000 in
set_option maxRecDepth 100000 in
theorem gk_clear (l : Launch) (dC : Nat → ClassId) (dI : Nat → Nat → Nat) (sz : Nat) (ch : Nat) (cp : Nat) (cn : Nat) (zs : Int32) : Met l yK_clear (.code yK_clear cK_clear 1 none :: aw) ({ frames := 0, cells := 0, slots := 0, locals := 0 }) (pW (dC, dI) sz [(ch, .inr (2, [.ref cp, .ref cn, .int zs]))] [] [.ref ch]) (va_Qv (fun (_ : Unit) => True) (fun _ t => wW (dC, dI) (va_A [(ch, .inr (2, [.ref cp, .ref cn, .int zs]))] sz) [(ch, .inr (2, [.ref cp, .ref cn, .int 0]))] [] t) (va_A [(ch, .inr (2, [.ref cp, .ref cn, .int zs]))] sz)) 0 0 (va_A [(ch, .inr (2, [.ref cp, .ref cn, .int zs]))] sz) := by
  refine Met.ofW (cc := cK_clear) (maxL := 1) (ret := none) (by decide) rfl ?_
  intro p e s m args below meth c s₁ B hml hv
  obtain ⟨rfl, hv⟩ := hv
  have hx := B.exec
  have hb := B.bytes
  have hr := B.returns
  have hts : ∀ w ∈ aw, w.before _ s = true := fun w h => atoms_spec (ws := (.code yK_clear cK_clear 1 none :: aw)) B.pre w (List.mem_cons_of_mem _ h)
  have hown : s.vm.findClass RK = some m.cls := findClass_of_methodNamed B.named
  have hlocks := B.notSynchronized
  obtain ⟨hsz, hP, hK, hD0, hG⟩ := hv
  subst hsz
  have hD := hD0.self (sz := s.heap.size)
  generalize hAe : va_A [(ch, .inr (2, [.ref cp, .ref cn, .int zs]))] s.heap.size = A at hD ⊢
  have hA : ∀ q : Nat, s.heap.size ≤ q → A q := fun q h => by rw [← hAe]; exact Or.inr h
  obtain ⟨H, hH⟩ : ∃ H, H = s.heap := ⟨_, rfl⟩
  have hS : va_S A s.heap H [] := by rw [hH]; exact va_S.rf
  rw [← hH] at hP ⊢
  have hP : va_P (dC, dI) kCl [(ch, .inr (2, [.ref cp, .ref cn, .int zs]))] H := hP
  have hl := lv_entry ([.ref ch]) (n := 1) (Nat.le_of_ble_eq_true rfl)
  rw [lg_entry_eq]
  generalize (lg_sl ([.ref ch]) ++ List.replicate (1 - (lg_sl ([.ref ch])).length) Slot.unset).toArray = ls at hl ⊢
  have hl : lv_has ls 1 [(0, .ref ch)] := hl
  refine lv_aload_n (pc := 0) hx hb dK_clear_0 rfl (lv_at hl 0 rfl) ?_
  refine lv_iconst (pc := 1) (v := 0) hx hb dK_clear_1 (by decide) ?_
  refine va_put (D := (dC, dI)) (cl := kCl) (ci := 2) (v := .int 0) (ty := .int) (C := RK) (T := TK) (N := 3) (pc := 2) hx hb hts inK tyK tyK_ok nmK hown hK hP hD hS 0 rfl rfl 2 (by decide) (hts _ wd_105) (fun _ h9 => h9) rfl (by decide +kernel) rfl rfl (Nat.le_of_ble_eq_true rfl) dK_clear_2 (fun H locs hP hD hS => ?_)
  have hP : va_P (dC, dI) kCl [(ch, .inr (2, [.ref cp, .ref cn, .int 0]))] H := hP
  have hD : va_D A [(ch, .inr (2, [.ref cp, .ref cn, .int 0]))] := hD
  have hP9 := hP.sub (ws' := [(ch, .inr (2, [.ref cp, .ref cn, .int 0]))]) [0] rfl
  have hD9 := hD.sub (ws' := [(ch, .inr (2, [.ref cp, .ref cn, .int 0]))]) [0] (by decide) rfl
  have hK9 := hK.sub (tys' := []) [] rfl
  exact W.vret (pc := 5) hx hb hr (fun t ht hW => ⟨⟨(), rfl, trivial, by rw [ht]; exact hP9, va_K.moved hW.alike hK9, hD9⟩, hS.F ht⟩) hS.2.2 dK_clear_5
set_option maxHeartbeats 4000000 in
set_option maxRecDepth 100000 in
theorem gs_init (l : Launch) (dC : Nat → ClassId) (dI : Nat → Nat → Nat) (sz : Nat) (rv : Nat) (au : Int32) : Met l yS_init (.code yS_init cS_init 2 none :: aw) ({ frames := 2, cells := 4, slots := 25, locals := 32 }) (pW (dC, dI) sz [(rv, .inr (7, [.null, .int 0, .int 0]))] [] [.ref rv, .int au]) (va_Qv (fun (_ : Unit) => True) (fun _ t => ∃ (ct : Nat) (pc9 : Nat) (tg : Nat) (fx : Nat) (cP : ClassId) (cT : ClassId) (cX : ClassId), wW (dC, dI) (va_A [(rv, .inr (7, [.null, .int 0, .int 0]))] sz) [(rv, .inr (7, [.ref ct, .int au, .int 0])), (ct, .inr (5, [.ref pc9, .int 0, .ref tg, .ref fx, .int 0])), (pc9, .inl (cP, 8, .inr (.inl (fun _ => 0)))), (tg, .inl (cT, 6, .inl (fun _ => 0))), (fx, .inl (cX, 6, .inl (fun _ => 0)))] [(cP, .long), (cT, .int), (cX, .int)] t) (va_A [(rv, .inr (7, [.null, .int 0, .int 0]))] sz)) 4 25 (va_A [(rv, .inr (7, [.null, .int 0, .int 0]))] sz) := by
  refine Met.ofW (cc := cS_init) (maxL := 2) (ret := none) (by decide) rfl ?_
  intro p e s m args below meth c s₁ B hml hv
  obtain ⟨rfl, hv⟩ := hv
  have hx := B.exec
  have hb := B.bytes
  have hr := B.returns
  have hts : ∀ w ∈ aw, w.before _ s = true := fun w h => atoms_spec (ws := (.code yS_init cS_init 2 none :: aw)) B.pre w (List.mem_cons_of_mem _ h)
  have hown : s.vm.findClass RS = some m.cls := findClass_of_methodNamed B.named
  have hlocks := B.notSynchronized
  have hin : meth.name = "<init>" := (name_of_methodNamed B.named B.method).1
  obtain ⟨hsz, hP, hK, hD0, hG⟩ := hv
  subst hsz
  have hD := hD0.self (sz := s.heap.size)
  generalize hAe : va_A [(rv, .inr (7, [.null, .int 0, .int 0]))] s.heap.size = A at hD ⊢
  have hA : ∀ q : Nat, s.heap.size ≤ q → A q := fun q h => by rw [← hAe]; exact Or.inr h
  obtain ⟨H, hH⟩ : ∃ H, H = s.heap := ⟨_, rfl⟩
  have hS : va_S A s.heap H [] := by rw [hH]; exact va_S.rf
  rw [← hH] at hP ⊢
  have hP : va_P (dC, dI) kCl [(rv, .inr (7, [.null, .int 0, .int 0]))] H := hP
  have hl := lv_entry ([.ref rv, .int au]) (n := 2) (Nat.le_of_ble_eq_true rfl)
  rw [lg_entry_eq]
  generalize (lg_sl ([.ref rv, .int au]) ++ List.replicate (2 - (lg_sl ([.ref rv, .int au])).length) Slot.unset).toArray = ls at hl ⊢
  have hl : lv_has ls 2 [(0, .ref rv), (1, .int au)] := hl
  refine lv_aload_n (pc := 0) hx hb dS_init_0 rfl (lv_at hl 0 rfl) ?_
  refine W.objInit hx hb hown (hts _ wd_106) (hts _ wd_68) (hts _ wd_69) rfl (by rw [hml]; exact hl.1) rfl dS_init_1 (Nat.le_of_ble_eq_true rfl) (Nat.le_of_ble_eq_true rfl) ?_
  refine W.eq (g2 := F0 m 4 ls []) rfl ?_
  refine lv_aload_n (pc := 4) hx hb dS_init_4 rfl (lv_at hl 0 rfl) ?_
  refine va_new (D := (dC, dI)) (cl := kCl) (pc := 5) (ci := 5) (fs := [.null, .int 0, .null, .null, .int 0]) (C := RC) (T := TC) (N := 5) hx hb hts inC tyC tyC_ok hown (hts _ wd_107) (hts _ wd_108) (hts _ wd_51) hK hP hD hS hA rfl (fun j hj => by rcases (show j = 0 ∨ j = 1 ∨ j = 2 ∨ j = 3 ∨ j = 4 by omega) with rfl | rfl | rfl | rfl | rfl <;> rfl) (Nat.le_of_ble_eq_true rfl) (Nat.le_of_ble_eq_true rfl) dS_init_5 (fun q1 H hP hD hS => ?_)
  have hP : va_P (dC, dI) kCl [(rv, .inr (7, [.null, .int 0, .int 0])), (q1, .inr (5, [.null, .int 0, .null, .null, .int 0]))] H := hP
  have hD : va_D A [(rv, .inr (7, [.null, .int 0, .int 0])), (q1, .inr (5, [.null, .int 0, .null, .null, .int 0]))] := hD
  have hK : va_K (dC, dI) kCl [] s := hK
  refine W.widen (k := 1) (n := 5) (Nat.le_of_ble_eq_true rfl) (Nat.le_of_ble_eq_true rfl) ?_
  refine lv_dup (pc := 8) hx hb dS_init_8 rfl ?_
  have hPc := hP.sub (ws' := [(q1, .inr (5, [.null, .int 0, .null, .null, .int 0]))]) [1] rfl
  have hDc := hD.sub (ws' := [(q1, .inr (5, [.null, .int 0, .null, .null, .int 0]))]) [1] (by decide) rfl
  have hKc := hK.sub (tys' := []) [] rfl
  have hFc := va_free (wc := [(q1, .inr (5, [.null, .int 0, .null, .null, .int 0]))]) hD hS hA [1] rfl
  refine va_callv (pc := 9) (va_runIN (As := []) (rest := [.ref q1, .ref rv]) ⟨hx, hb, hml, hown, hts⟩ (c_init l dC dI H.size q1) (⟨va_cnB 0 hts (gI wd_109) rfl rfl rfl (eG_S11 hG) (hts _ wd_51) (by decide +kernel) ⟨Nat.le_of_ble_eq_true rfl, Nat.le_of_ble_eq_true rfl⟩, rfl, hts _ wd_110⟩) ⟨pW_blind, pW_pre hPc hKc hDc hG⟩ rfl rfl hl.1 rfl (lv_room (Nat.le_of_ble_eq_true rfl)) dS_init_9 ⟨Nat.le_of_ble_eq_true rfl, Nat.le_of_ble_eq_true rfl⟩) hS (fun q _ h => hFc q h) hFc (fun u t H1 locs ht hvm hr3 hB hz1 hk1 hS => ?_)
  obtain ⟨pc94, tg5, fx6, cP7, cT8, cX9, hP1, hK1, hD1⟩ := hB
  rw [ht] at hP1
  have hK1 := va_K.moved hvm.symm hK1
  obtain ⟨hP, hD⟩ := va_join (wr := [(rv, .inr (7, [.null, .int 0, .int 0]))]) (w1 := [(q1, .inr (5, [.ref pc94, .int 0, .ref tg5, .ref fx6, .int 0])), (pc94, .inl (cP7, 8, .inr (.inl (fun _ => 0)))), (tg5, .inl (cT8, 6, .inl (fun _ => 0))), (fx6, .inl (cX9, 6, .inl (fun _ => 0)))]) hP hD [1] [0] rfl rfl (by decide) (by decide) hk1 hFc hP1 hD1
  generalize H1 = H at hP hS ⊢
  have hK := hK.app hK1
  have hK : va_K (dC, dI) kCl [(cP7, .long), (cT8, .int), (cX9, .int)] s := hK
  have hP : va_P (dC, dI) kCl [(rv, .inr (7, [.null, .int 0, .int 0])), (q1, .inr (5, [.ref pc94, .int 0, .ref tg5, .ref fx6, .int 0])), (pc94, .inl (cP7, 8, .inr (.inl (fun _ => 0)))), (tg5, .inl (cT8, 6, .inl (fun _ => 0))), (fx6, .inl (cX9, 6, .inl (fun _ => 0)))] H := hP
  have hD : va_D A [(rv, .inr (7, [.null, .int 0, .int 0])), (q1, .inr (5, [.ref pc94, .int 0, .ref tg5, .ref fx6, .int 0])), (pc94, .inl (cP7, 8, .inr (.inl (fun _ => 0)))), (tg5, .inl (cT8, 6, .inl (fun _ => 0))), (fx6, .inl (cX9, 6, .inl (fun _ => 0)))] := hD
  refine W.widen (k := 4) (n := 25) (Nat.le_of_ble_eq_true rfl) (Nat.le_of_ble_eq_true rfl) ?_
  refine va_putF (D := (dC, dI)) (cl := kCl) (ci := 7) (v := .ref q1) (ty := (.object "DrawingVault$Content")) (C := RS) (T := TS) (N := 3) (pc := 12) hx hb hts inS tyS tyS_ok nmS hown hK hP hD hS 0 rfl rfl 0 (by decide) (hts _ wd_111) (fun _ h9 => h9) rfl hin rfl (by decide +kernel) rfl rfl (Nat.le_of_ble_eq_true rfl) dS_init_12 (fun H locs hP hD hS => ?_)
  have hP : va_P (dC, dI) kCl [(rv, .inr (7, [.ref q1, .int 0, .int 0])), (q1, .inr (5, [.ref pc94, .int 0, .ref tg5, .ref fx6, .int 0])), (pc94, .inl (cP7, 8, .inr (.inl (fun _ => 0)))), (tg5, .inl (cT8, 6, .inl (fun _ => 0))), (fx6, .inl (cX9, 6, .inl (fun _ => 0)))] H := hP
  have hD : va_D A [(rv, .inr (7, [.ref q1, .int 0, .int 0])), (q1, .inr (5, [.ref pc94, .int 0, .ref tg5, .ref fx6, .int 0])), (pc94, .inl (cP7, 8, .inr (.inl (fun _ => 0)))), (tg5, .inl (cT8, 6, .inl (fun _ => 0))), (fx6, .inl (cX9, 6, .inl (fun _ => 0)))] := hD
  refine lv_aload_n (pc := 15) hx hb dS_init_15 rfl (lv_at hl 0 rfl) ?_
  refine lv_iconst (pc := 16) (v := 0) hx hb dS_init_16 (by decide) ?_
  refine va_put (D := (dC, dI)) (cl := kCl) (ci := 7) (v := .int 0) (ty := .int) (C := RS) (T := TS) (N := 3) (pc := 17) hx hb hts inS tyS tyS_ok nmS hown hK hP hD hS 0 rfl rfl 2 (by decide) (hts _ wd_112) (fun _ h9 => h9) rfl (by decide +kernel) rfl rfl (Nat.le_of_ble_eq_true rfl) dS_init_17 (fun H locs hP hD hS => ?_)
  have hP : va_P (dC, dI) kCl [(rv, .inr (7, [.ref q1, .int 0, .int 0])), (q1, .inr (5, [.ref pc94, .int 0, .ref tg5, .ref fx6, .int 0])), (pc94, .inl (cP7, 8, .inr (.inl (fun _ => 0)))), (tg5, .inl (cT8, 6, .inl (fun _ => 0))), (fx6, .inl (cX9, 6, .inl (fun _ => 0)))] H := hP
  have hD : va_D A [(rv, .inr (7, [.ref q1, .int 0, .int 0])), (q1, .inr (5, [.ref pc94, .int 0, .ref tg5, .ref fx6, .int 0])), (pc94, .inl (cP7, 8, .inr (.inl (fun _ => 0)))), (tg5, .inl (cT8, 6, .inl (fun _ => 0))), (fx6, .inl (cX9, 6, .inl (fun _ => 0)))] := hD
  refine lv_aload_n (pc := 20) hx hb dS_init_20 rfl (lv_at hl 0 rfl) ?_
  refine lv_iload_n (pc := 21) hx hb dS_init_21 rfl (lv_at hl 1 rfl) ?_
  refine va_putF (D := (dC, dI)) (cl := kCl) (ci := 7) (v := .int au) (ty := .int) (C := RS) (T := TS) (N := 3) (pc := 22) hx hb hts inS tyS tyS_ok nmS hown hK hP hD hS 0 rfl rfl 1 (by decide) (hts _ wd_113) (fun _ h9 => h9) rfl hin rfl (by decide +kernel) rfl rfl (Nat.le_of_ble_eq_true rfl) dS_init_22 (fun H locs hP hD hS => ?_)
  have hP : va_P (dC, dI) kCl [(rv, .inr (7, [.ref q1, .int au, .int 0])), (q1, .inr (5, [.ref pc94, .int 0, .ref tg5, .ref fx6, .int 0])), (pc94, .inl (cP7, 8, .inr (.inl (fun _ => 0)))), (tg5, .inl (cT8, 6, .inl (fun _ => 0))), (fx6, .inl (cX9, 6, .inl (fun _ => 0)))] H := hP
  have hD : va_D A [(rv, .inr (7, [.ref q1, .int au, .int 0])), (q1, .inr (5, [.ref pc94, .int 0, .ref tg5, .ref fx6, .int 0])), (pc94, .inl (cP7, 8, .inr (.inl (fun _ => 0)))), (tg5, .inl (cT8, 6, .inl (fun _ => 0))), (fx6, .inl (cX9, 6, .inl (fun _ => 0)))] := hD
  have hP9 := hP.sub (ws' := [(rv, .inr (7, [.ref q1, .int au, .int 0])), (q1, .inr (5, [.ref pc94, .int 0, .ref tg5, .ref fx6, .int 0])), (pc94, .inl (cP7, 8, .inr (.inl (fun _ => 0)))), (tg5, .inl (cT8, 6, .inl (fun _ => 0))), (fx6, .inl (cX9, 6, .inl (fun _ => 0)))]) [0, 1, 2, 3, 4] rfl
  have hD9 := hD.sub (ws' := [(rv, .inr (7, [.ref q1, .int au, .int 0])), (q1, .inr (5, [.ref pc94, .int 0, .ref tg5, .ref fx6, .int 0])), (pc94, .inl (cP7, 8, .inr (.inl (fun _ => 0)))), (tg5, .inl (cT8, 6, .inl (fun _ => 0))), (fx6, .inl (cX9, 6, .inl (fun _ => 0)))]) [0, 1, 2, 3, 4] (by decide) rfl
  have hK9 := hK.sub (tys' := [(cP7, .long), (cT8, .int), (cX9, .int)]) [0, 1, 2] rfl
  exact W.vret (pc := 25) hx hb hr (fun t ht hW => ⟨⟨(), rfl, trivial, q1, pc94, tg5, fx6, cP7, cT8, cX9, by rw [ht]; exact hP9, va_K.moved hW.alike hK9, hD9⟩, hS.F ht⟩) hS.2.2 dS_init_25
