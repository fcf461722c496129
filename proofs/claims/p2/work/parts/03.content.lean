abbrev cC_hasByte : ByteArray := prog_4_method_4_code
abbrev yC_hasByte : MethodName := ⟨"DrawingVault$Content", "hasByte", "(I)Z"⟩
theorem dC_hasByte_0 : decode cC_hasByte 0 = .ok (.iload_n 1, 1) := by decide +kernel
theorem dC_hasByte_1 : decode cC_hasByte 1 = .ok (.ifCond .lt 15, 3) := by decide +kernel
theorem dC_hasByte_4 : decode cC_hasByte 4 = .ok (.iload_n 1, 1) := by decide +kernel
theorem dC_hasByte_5 : decode cC_hasByte 5 = .ok (.aload_n 0, 1) := by decide +kernel
theorem dC_hasByte_6 : decode cC_hasByte 6 = .ok (.getfield 28, 3) := by decide +kernel
theorem dC_hasByte_9 : decode cC_hasByte 9 = .ok (.if_icmp .ge 7, 3) := by decide +kernel
theorem dC_hasByte_12 : decode cC_hasByte 12 = .ok (.iconst 1, 1) := by decide +kernel
theorem dC_hasByte_13 : decode cC_hasByte 13 = .ok (.goto 4, 3) := by decide +kernel
theorem dC_hasByte_16 : decode cC_hasByte 16 = .ok (.iconst 0, 1) := by decide +kernel
theorem dC_hasByte_17 : decode cC_hasByte 17 = .ok (.ireturn, 1) := by decide +kernel
abbrev cC_hasReference : ByteArray := prog_4_method_11_code
abbrev yC_hasReference : MethodName := ⟨"DrawingVault$Content", "hasReference", "(I)Z"⟩
theorem dC_hasReference_0 : decode cC_hasReference 0 = .ok (.iload_n 1, 1) := by decide +kernel
theorem dC_hasReference_1 : decode cC_hasReference 1 = .ok (.ifCond .lt 15, 3) := by decide +kernel
theorem dC_hasReference_4 : decode cC_hasReference 4 = .ok (.iload_n 1, 1) := by decide +kernel
theorem dC_hasReference_5 : decode cC_hasReference 5 = .ok (.aload_n 0, 1) := by decide +kernel
theorem dC_hasReference_6 : decode cC_hasReference 6 = .ok (.getfield 32, 3) := by decide +kernel
theorem dC_hasReference_9 : decode cC_hasReference 9 = .ok (.if_icmp .ge 7, 3) := by decide +kernel
theorem dC_hasReference_12 : decode cC_hasReference 12 = .ok (.iconst 1, 1) := by decide +kernel
theorem dC_hasReference_13 : decode cC_hasReference 13 = .ok (.goto 4, 3) := by decide +kernel
theorem dC_hasReference_16 : decode cC_hasReference 16 = .ok (.iconst 0, 1) := by decide +kernel
theorem dC_hasReference_17 : decode cC_hasReference 17 = .ok (.ireturn, 1) := by decide +kernel
abbrev cC_shiftOf : ByteArray := prog_4_method_16_code
abbrev yC_shiftOf : MethodName := ⟨"DrawingVault$Content", "shiftOf", "(I)I"⟩
theorem dC_shiftOf_0 : decode cC_shiftOf 0 = .ok (.iload_n 0, 1) := by decide +kernel
theorem dC_shiftOf_1 : decode cC_shiftOf 1 = .ok (.bipush 8, 2) := by decide +kernel
theorem dC_shiftOf_3 : decode cC_shiftOf 3 = .ok (.irem, 1) := by decide +kernel
theorem dC_shiftOf_4 : decode cC_shiftOf 4 = .ok (.bipush 8, 2) := by decide +kernel
theorem dC_shiftOf_6 : decode cC_shiftOf 6 = .ok (.imul, 1) := by decide +kernel
theorem dC_shiftOf_7 : decode cC_shiftOf 7 = .ok (.ireturn, 1) := by decide +kernel
abbrev cC_byteAt : ByteArray := prog_4_method_5_code
abbrev yC_byteAt : MethodName := ⟨"DrawingVault$Content", "byteAt", "(I)I"⟩
theorem dC_byteAt_0 : decode cC_byteAt 0 = .ok (.aload_n 0, 1) := by decide +kernel
theorem dC_byteAt_1 : decode cC_byteAt 1 = .ok (.getfield 9, 3) := by decide +kernel
theorem dC_byteAt_4 : decode cC_byteAt 4 = .ok (.iload_n 1, 1) := by decide +kernel
theorem dC_byteAt_5 : decode cC_byteAt 5 = .ok (.bipush 8, 2) := by decide +kernel
theorem dC_byteAt_7 : decode cC_byteAt 7 = .ok (.idiv, 1) := by decide +kernel
theorem dC_byteAt_8 : decode cC_byteAt 8 = .ok (.laload, 1) := by decide +kernel
theorem dC_byteAt_9 : decode cC_byteAt 9 = .ok (.iload_n 1, 1) := by decide +kernel
theorem dC_byteAt_10 : decode cC_byteAt 10 = .ok (.invokestatic 41, 3) := by decide +kernel
theorem dC_byteAt_13 : decode cC_byteAt 13 = .ok (.lushr, 1) := by decide +kernel
theorem dC_byteAt_14 : decode cC_byteAt 14 = .ok (.l2i, 1) := by decide +kernel
theorem dC_byteAt_15 : decode cC_byteAt 15 = .ok (.sipush 255, 3) := by decide +kernel
theorem dC_byteAt_18 : decode cC_byteAt 18 = .ok (.iand, 1) := by decide +kernel
theorem dC_byteAt_19 : decode cC_byteAt 19 = .ok (.ireturn, 1) := by decide +kernel
abbrev cC_setByte : ByteArray := prog_4_method_6_code
abbrev yC_setByte : MethodName := ⟨"DrawingVault$Content", "setByte", "(II)V"⟩
theorem dC_setByte_0 : decode cC_setByte 0 = .ok (.aload_n 0, 1) := by decide +kernel
theorem dC_setByte_1 : decode cC_setByte 1 = .ok (.getfield 9, 3) := by decide +kernel
theorem dC_setByte_4 : decode cC_setByte 4 = .ok (.iload_n 1, 1) := by decide +kernel
theorem dC_setByte_5 : decode cC_setByte 5 = .ok (.bipush 8, 2) := by decide +kernel
theorem dC_setByte_7 : decode cC_setByte 7 = .ok (.idiv, 1) := by decide +kernel
theorem dC_setByte_8 : decode cC_setByte 8 = .ok (.laload, 1) := by decide +kernel
theorem dC_setByte_9 : decode cC_setByte 9 = .ok (.ldc2_w 45, 3) := by decide +kernel
theorem dC_setByte_12 : decode cC_setByte 12 = .ok (.iload_n 1, 1) := by decide +kernel
theorem dC_setByte_13 : decode cC_setByte 13 = .ok (.invokestatic 41, 3) := by decide +kernel
theorem dC_setByte_16 : decode cC_setByte 16 = .ok (.lshl, 1) := by decide +kernel
theorem dC_setByte_17 : decode cC_setByte 17 = .ok (.ldc2_w 47, 3) := by decide +kernel
theorem dC_setByte_20 : decode cC_setByte 20 = .ok (.lxor, 1) := by decide +kernel
theorem dC_setByte_21 : decode cC_setByte 21 = .ok (.land, 1) := by decide +kernel
theorem dC_setByte_22 : decode cC_setByte 22 = .ok (.lstore_n 3, 1) := by decide +kernel
theorem dC_setByte_23 : decode cC_setByte 23 = .ok (.aload_n 0, 1) := by decide +kernel
theorem dC_setByte_24 : decode cC_setByte 24 = .ok (.getfield 9, 3) := by decide +kernel
theorem dC_setByte_27 : decode cC_setByte 27 = .ok (.iload_n 1, 1) := by decide +kernel
theorem dC_setByte_28 : decode cC_setByte 28 = .ok (.bipush 8, 2) := by decide +kernel
theorem dC_setByte_30 : decode cC_setByte 30 = .ok (.idiv, 1) := by decide +kernel
theorem dC_setByte_31 : decode cC_setByte 31 = .ok (.lload_n 3, 1) := by decide +kernel
theorem dC_setByte_32 : decode cC_setByte 32 = .ok (.iload_n 2, 1) := by decide +kernel
theorem dC_setByte_33 : decode cC_setByte 33 = .ok (.i2l, 1) := by decide +kernel
theorem dC_setByte_34 : decode cC_setByte 34 = .ok (.iload_n 1, 1) := by decide +kernel
theorem dC_setByte_35 : decode cC_setByte 35 = .ok (.invokestatic 41, 3) := by decide +kernel
theorem dC_setByte_38 : decode cC_setByte 38 = .ok (.lshl, 1) := by decide +kernel
theorem dC_setByte_39 : decode cC_setByte 39 = .ok (.lor, 1) := by decide +kernel
theorem dC_setByte_40 : decode cC_setByte 40 = .ok (.lastore, 1) := by decide +kernel
theorem dC_setByte_41 : decode cC_setByte 41 = .ok (.return_, 1) := by decide +kernel
abbrev cC_pieceCount : ByteArray := prog_4_method_8_code
abbrev yC_pieceCount : MethodName := ⟨"DrawingVault$Content", "pieceCount", "()I"⟩
theorem dC_pieceCount_0 : decode cC_pieceCount 0 = .ok (.aload_n 0, 1) := by decide +kernel
theorem dC_pieceCount_1 : decode cC_pieceCount 1 = .ok (.getfield 28, 3) := by decide +kernel
theorem dC_pieceCount_4 : decode cC_pieceCount 4 = .ok (.bipush 8, 2) := by decide +kernel
theorem dC_pieceCount_6 : decode cC_pieceCount 6 = .ok (.iadd, 1) := by decide +kernel
theorem dC_pieceCount_7 : decode cC_pieceCount 7 = .ok (.iconst 1, 1) := by decide +kernel
theorem dC_pieceCount_8 : decode cC_pieceCount 8 = .ok (.isub, 1) := by decide +kernel
theorem dC_pieceCount_9 : decode cC_pieceCount 9 = .ok (.bipush 8, 2) := by decide +kernel
theorem dC_pieceCount_11 : decode cC_pieceCount 11 = .ok (.idiv, 1) := by decide +kernel
theorem dC_pieceCount_12 : decode cC_pieceCount 12 = .ok (.ireturn, 1) := by decide +kernel
abbrev cC_pieceLength : ByteArray := prog_4_method_9_code
abbrev yC_pieceLength : MethodName := ⟨"DrawingVault$Content", "pieceLength", "(I)I"⟩
theorem dC_pieceLength_0 : decode cC_pieceLength 0 = .ok (.iconst 0, 1) := by decide +kernel
theorem dC_pieceLength_1 : decode cC_pieceLength 1 = .ok (.bipush 8, 2) := by decide +kernel
theorem dC_pieceLength_3 : decode cC_pieceLength 3 = .ok (.aload_n 0, 1) := by decide +kernel
theorem dC_pieceLength_4 : decode cC_pieceLength 4 = .ok (.getfield 28, 3) := by decide +kernel
theorem dC_pieceLength_7 : decode cC_pieceLength 7 = .ok (.iload_n 1, 1) := by decide +kernel
theorem dC_pieceLength_8 : decode cC_pieceLength 8 = .ok (.bipush 8, 2) := by decide +kernel
theorem dC_pieceLength_10 : decode cC_pieceLength 10 = .ok (.imul, 1) := by decide +kernel
theorem dC_pieceLength_11 : decode cC_pieceLength 11 = .ok (.isub, 1) := by decide +kernel
theorem dC_pieceLength_12 : decode cC_pieceLength 12 = .ok (.invokestatic 53, 3) := by decide +kernel
theorem dC_pieceLength_15 : decode cC_pieceLength 15 = .ok (.invokestatic 59, 3) := by decide +kernel
theorem dC_pieceLength_18 : decode cC_pieceLength 18 = .ok (.ireturn, 1) := by decide +kernel
abbrev cC_setReference : ByteArray := prog_4_method_12_code
abbrev yC_setReference : MethodName := ⟨"DrawingVault$Content", "setReference", "(III)V"⟩
theorem dC_setReference_0 : decode cC_setReference 0 = .ok (.aload_n 0, 1) := by decide +kernel
theorem dC_setReference_1 : decode cC_setReference 1 = .ok (.getfield 15, 3) := by decide +kernel
theorem dC_setReference_4 : decode cC_setReference 4 = .ok (.iload_n 1, 1) := by decide +kernel
theorem dC_setReference_5 : decode cC_setReference 5 = .ok (.iload_n 2, 1) := by decide +kernel
theorem dC_setReference_6 : decode cC_setReference 6 = .ok (.iastore, 1) := by decide +kernel
theorem dC_setReference_7 : decode cC_setReference 7 = .ok (.aload_n 0, 1) := by decide +kernel
theorem dC_setReference_8 : decode cC_setReference 8 = .ok (.getfield 19, 3) := by decide +kernel
theorem dC_setReference_11 : decode cC_setReference 11 = .ok (.iload_n 1, 1) := by decide +kernel
theorem dC_setReference_12 : decode cC_setReference 12 = .ok (.iload_n 3, 1) := by decide +kernel
theorem dC_setReference_13 : decode cC_setReference 13 = .ok (.iastore, 1) := by decide +kernel
theorem dC_setReference_14 : decode cC_setReference 14 = .ok (.aload_n 0, 1) := by decide +kernel
theorem dC_setReference_15 : decode cC_setReference 15 = .ok (.aload_n 0, 1) := by decide +kernel
theorem dC_setReference_16 : decode cC_setReference 16 = .ok (.getfield 32, 3) := by decide +kernel
theorem dC_setReference_19 : decode cC_setReference 19 = .ok (.iload_n 1, 1) := by decide +kernel
theorem dC_setReference_20 : decode cC_setReference 20 = .ok (.iconst 1, 1) := by decide +kernel
theorem dC_setReference_21 : decode cC_setReference 21 = .ok (.iadd, 1) := by decide +kernel
theorem dC_setReference_22 : decode cC_setReference 22 = .ok (.invokestatic 59, 3) := by decide +kernel
theorem dC_setReference_25 : decode cC_setReference 25 = .ok (.putfield 32, 3) := by decide +kernel
theorem dC_setReference_28 : decode cC_setReference 28 = .ok (.return_, 1) := by decide +kernel
abbrev cC_takeFrom : ByteArray := prog_4_method_2_code
abbrev yC_takeFrom : MethodName := ⟨"DrawingVault$Content", "takeFrom", "(LDrawingVault$Content;)V"⟩
theorem dC_takeFrom_0 : decode cC_takeFrom 0 = .ok (.aload_n 1, 1) := by decide +kernel
theorem dC_takeFrom_1 : decode cC_takeFrom 1 = .ok (.getfield 9, 3) := by decide +kernel
theorem dC_takeFrom_4 : decode cC_takeFrom 4 = .ok (.iconst 0, 1) := by decide +kernel
theorem dC_takeFrom_5 : decode cC_takeFrom 5 = .ok (.aload_n 0, 1) := by decide +kernel
theorem dC_takeFrom_6 : decode cC_takeFrom 6 = .ok (.getfield 9, 3) := by decide +kernel
theorem dC_takeFrom_9 : decode cC_takeFrom 9 = .ok (.iconst 0, 1) := by decide +kernel
theorem dC_takeFrom_10 : decode cC_takeFrom 10 = .ok (.bipush 8, 2) := by decide +kernel
theorem dC_takeFrom_12 : decode cC_takeFrom 12 = .ok (.invokestatic 22, 3) := by decide +kernel
theorem dC_takeFrom_15 : decode cC_takeFrom 15 = .ok (.aload_n 1, 1) := by decide +kernel
theorem dC_takeFrom_16 : decode cC_takeFrom 16 = .ok (.getfield 15, 3) := by decide +kernel
theorem dC_takeFrom_19 : decode cC_takeFrom 19 = .ok (.iconst 0, 1) := by decide +kernel
theorem dC_takeFrom_20 : decode cC_takeFrom 20 = .ok (.aload_n 0, 1) := by decide +kernel
theorem dC_takeFrom_21 : decode cC_takeFrom 21 = .ok (.getfield 15, 3) := by decide +kernel
theorem dC_takeFrom_24 : decode cC_takeFrom 24 = .ok (.iconst 0, 1) := by decide +kernel
theorem dC_takeFrom_25 : decode cC_takeFrom 25 = .ok (.bipush 6, 2) := by decide +kernel
theorem dC_takeFrom_27 : decode cC_takeFrom 27 = .ok (.invokestatic 22, 3) := by decide +kernel
theorem dC_takeFrom_30 : decode cC_takeFrom 30 = .ok (.aload_n 1, 1) := by decide +kernel
theorem dC_takeFrom_31 : decode cC_takeFrom 31 = .ok (.getfield 19, 3) := by decide +kernel
theorem dC_takeFrom_34 : decode cC_takeFrom 34 = .ok (.iconst 0, 1) := by decide +kernel
theorem dC_takeFrom_35 : decode cC_takeFrom 35 = .ok (.aload_n 0, 1) := by decide +kernel
theorem dC_takeFrom_36 : decode cC_takeFrom 36 = .ok (.getfield 19, 3) := by decide +kernel
theorem dC_takeFrom_39 : decode cC_takeFrom 39 = .ok (.iconst 0, 1) := by decide +kernel
theorem dC_takeFrom_40 : decode cC_takeFrom 40 = .ok (.bipush 6, 2) := by decide +kernel
theorem dC_takeFrom_42 : decode cC_takeFrom 42 = .ok (.invokestatic 22, 3) := by decide +kernel
theorem dC_takeFrom_45 : decode cC_takeFrom 45 = .ok (.aload_n 0, 1) := by decide +kernel
theorem dC_takeFrom_46 : decode cC_takeFrom 46 = .ok (.aload_n 1, 1) := by decide +kernel
theorem dC_takeFrom_47 : decode cC_takeFrom 47 = .ok (.getfield 28, 3) := by decide +kernel
theorem dC_takeFrom_50 : decode cC_takeFrom 50 = .ok (.putfield 28, 3) := by decide +kernel
theorem dC_takeFrom_53 : decode cC_takeFrom 53 = .ok (.aload_n 0, 1) := by decide +kernel
theorem dC_takeFrom_54 : decode cC_takeFrom 54 = .ok (.aload_n 1, 1) := by decide +kernel
theorem dC_takeFrom_55 : decode cC_takeFrom 55 = .ok (.getfield 32, 3) := by decide +kernel
theorem dC_takeFrom_58 : decode cC_takeFrom 58 = .ok (.putfield 32, 3) := by decide +kernel
theorem dC_takeFrom_61 : decode cC_takeFrom 61 = .ok (.return_, 1) := by decide +kernel
abbrev cC_init : ByteArray := prog_4_method_1_code
abbrev yC_init : MethodName := ⟨"DrawingVault$Content", "<init>", "()V"⟩
theorem dC_init_0 : decode cC_init 0 = .ok (.aload_n 0, 1) := by decide +kernel
theorem dC_init_1 : decode cC_init 1 = .ok (.invokespecial 3, 3) := by decide +kernel
theorem dC_init_4 : decode cC_init 4 = .ok (.aload_n 0, 1) := by decide +kernel
theorem dC_init_5 : decode cC_init 5 = .ok (.bipush 8, 2) := by decide +kernel
theorem dC_init_7 : decode cC_init 7 = .ok (.newarray .long, 2) := by decide +kernel
theorem dC_init_9 : decode cC_init 9 = .ok (.putfield 9, 3) := by decide +kernel
theorem dC_init_12 : decode cC_init 12 = .ok (.aload_n 0, 1) := by decide +kernel
theorem dC_init_13 : decode cC_init 13 = .ok (.bipush 6, 2) := by decide +kernel
theorem dC_init_15 : decode cC_init 15 = .ok (.newarray .int, 2) := by decide +kernel
theorem dC_init_17 : decode cC_init 17 = .ok (.putfield 15, 3) := by decide +kernel
theorem dC_init_20 : decode cC_init 20 = .ok (.aload_n 0, 1) := by decide +kernel
theorem dC_init_21 : decode cC_init 21 = .ok (.bipush 6, 2) := by decide +kernel
theorem dC_init_23 : decode cC_init 23 = .ok (.newarray .int, 2) := by decide +kernel
theorem dC_init_25 : decode cC_init 25 = .ok (.putfield 19, 3) := by decide +kernel
theorem dC_init_28 : decode cC_init 28 = .ok (.return_, 1) := by decide +kernel
theorem wd_45 : (.fieldLink "DrawingVault$Content" 28 "DrawingVault$Content" "bytes" "I" : Cond) ∈ aw := aw_in (tb_2 (List.mem_of_getElem? (i := 139) rfl)) rfl
theorem wd_46 : (.fieldLink "DrawingVault$Content" 32 "DrawingVault$Content" "references" "I" : Cond) ∈ aw := aw_in (tb_2 (List.mem_of_getElem? (i := 145) rfl)) rfl
theorem wd_47 : (.fieldLink "DrawingVault$Content" 9 "DrawingVault$Content" "pieces" "[J" : Cond) ∈ aw := aw_in (tb_2 (List.mem_of_getElem? (i := 137) rfl)) rfl
theorem wd_48 : (.code ⟨"DrawingVault$Content", "shiftOf", "(I)I"⟩ prog_4_method_16_code 1 (Option.some .int) : Cond) ∈ aw := aw_in (tb_3 (List.mem_of_getElem? (i := 21) rfl)) rfl
theorem wd_49 : (.methodLink "DrawingVault$Content" 41 ⟨"DrawingVault$Content", "shiftOf", "(I)I"⟩ : Cond) ∈ aw := aw_in (tb_3 (List.mem_of_getElem? (i := 19) rfl)) rfl
theorem wd_50 : (.static ⟨"DrawingVault$Content", "shiftOf", "(I)I"⟩ : Cond) ∈ aw := aw_in (tb_3 (List.mem_of_getElem? (i := 20) rfl)) rfl
theorem wd_51 : (.initialized "DrawingVault$Content" : Cond) ∈ aw := aw_in (tb_1 (List.mem_of_getElem? (i := 14) rfl)) rfl
theorem wd_52 : (.constantLong "DrawingVault$Content" 45 (255 : Int64) : Cond) ∈ aw := aw_in (tb_3 (List.mem_of_getElem? (i := 18) rfl)) rfl
theorem wd_53 : (.constantLong "DrawingVault$Content" 47 (-1 : Int64) : Cond) ∈ aw := aw_in (tb_3 (List.mem_of_getElem? (i := 22) rfl)) rfl
theorem wd_54 : (.methodLink "DrawingVault$Content" 53 ⟨"java/lang/Math", "min", "(II)I"⟩ : Cond) ∈ aw := aw_in (tb_1 (List.mem_of_getElem? (i := 222) rfl)) rfl
theorem wd_55 : (.static ⟨"java/lang/Math", "min", "(II)I"⟩ : Cond) ∈ aw := aw_in (tb_1 (List.mem_of_getElem? (i := 223) rfl)) rfl
theorem wd_56 : (.initialized "java/lang/Math" : Cond) ∈ aw := aw_in (tb_1 (List.mem_of_getElem? (i := 12) rfl)) rfl
theorem wd_57 : (.code ⟨"java/lang/Math", "min", "(II)I"⟩ prog_13_method_69_code 2 (Option.some .int) : Cond) ∈ aw := aw_in (tb_1 (List.mem_of_getElem? (i := 224) rfl)) rfl
theorem wd_58 : (.methodLink "DrawingVault$Content" 59 ⟨"java/lang/Math", "max", "(II)I"⟩ : Cond) ∈ aw := aw_in (tb_1 (List.mem_of_getElem? (i := 225) rfl)) rfl
theorem wd_59 : (.static ⟨"java/lang/Math", "max", "(II)I"⟩ : Cond) ∈ aw := aw_in (tb_1 (List.mem_of_getElem? (i := 226) rfl)) rfl
theorem wd_60 : (.code ⟨"java/lang/Math", "max", "(II)I"⟩ prog_13_method_65_code 2 (Option.some .int) : Cond) ∈ aw := aw_in (tb_1 (List.mem_of_getElem? (i := 227) rfl)) rfl
theorem wd_61 : (.fieldLink "DrawingVault$Content" 15 "DrawingVault$Content" "targets" "[I" : Cond) ∈ aw := aw_in (tb_2 (List.mem_of_getElem? (i := 141) rfl)) rfl
theorem wd_62 : (.fieldLink "DrawingVault$Content" 19 "DrawingVault$Content" "fixed" "[I" : Cond) ∈ aw := aw_in (tb_2 (List.mem_of_getElem? (i := 143) rfl)) rfl
theorem wd_63 : (.methodLink "DrawingVault$Content" 22 ⟨"java/lang/System", "arraycopy", "(Ljava/lang/Object;ILjava/lang/Object;II)V"⟩ : Cond) ∈ aw := aw_in (tb_1 (List.mem_of_getElem? (i := 183) rfl)) rfl
theorem wd_64 : (.native ⟨"java/lang/System", "arraycopy", "(Ljava/lang/Object;ILjava/lang/Object;II)V"⟩ : Cond) ∈ aw := aw_in (tb_1 (List.mem_of_getElem? (i := 185) rfl)) rfl
theorem wd_65 : (.static ⟨"java/lang/System", "arraycopy", "(Ljava/lang/Object;ILjava/lang/Object;II)V"⟩ : Cond) ∈ aw := aw_in (tb_1 (List.mem_of_getElem? (i := 184) rfl)) rfl
theorem wd_66 : (.initialized "java/lang/System" : Cond) ∈ aw := aw_in (tb_1 (List.mem_of_getElem? (i := 11) rfl)) rfl
theorem wd_67 : (.methodLink "DrawingVault$Content" 3 ⟨"java/lang/Object", "<init>", "()V"⟩ : Cond) ∈ aw := aw_in (tb_2 (List.mem_of_getElem? (i := 136) rfl)) rfl
theorem wd_68 : (.instanceMethod ⟨"java/lang/Object", "<init>", "()V"⟩ : Cond) ∈ aw := aw_in (tb_1 (List.mem_of_getElem? (i := 23) rfl)) rfl
theorem wd_69 : (.code ⟨"java/lang/Object", "<init>", "()V"⟩ object_method_1_code 1 (Option.none : Option Jvm.ClassFile.FieldType) : Cond) ∈ aw := aw_in (tb_1 (List.mem_of_getElem? (i := 24) rfl)) rfl
theorem wd_70 : (.arrayClass .long : Cond) ∈ aw := aw_in (tb_1 (List.mem_of_getElem? (i := 68) rfl)) rfl
theorem wd_71 : (.arrayClass .int : Cond) ∈ aw := aw_in (tb_1 (List.mem_of_getElem? (i := 50) rfl)) rfl

/-- the shift of a byte in its piece -/
def c_sh (a : Int32) : Int32 := (a - a / 8 * 8) * 8
/-- the byte at a place, and the pieces with a byte set -/
def c_byte (fp : Nat → Int64) (a : Int32) : Int32 := ((fp (a / 8).toNatClampNeg).toUInt64 >>> ((c_sh a).toInt64.toUInt64 &&& Int64.toUInt64 63)).toInt64.toInt32 &&& 255
def c_set (fp : Nat → Int64) (a v : Int32) : Nat → Int64 := vp_updL fp (a / 8).toNatClampNeg ((fp (a / 8).toNatClampNeg &&& ((255 <<< ((c_sh a).toInt64 &&& 63)) ^^^ (-1))) ||| (v.toInt64 <<< ((c_sh a).toInt64 &&& 63)))
def c_len (b pl : Int32) : Int32 := if 0 < (if b - pl * 8 < 8 then b - pl * 8 else 8) then (if b - pl * 8 < 8 then b - pl * 8 else 8) else 0
theorem cmp_0 {x y : Int64} : lg_cmp x y = 0 ↔ x = y := by
  unfold lg_cmp
  by_cases h : y < x
  · rw [if_pos h]
    exact ⟨fun e => absurd e (by decide), fun e => by subst e; exact (Int64.lt_irrefl h).elim⟩
  · rw [if_neg h]
    by_cases h2 : x = y
    · rw [if_pos h2]; exact ⟨fun _ => h2, fun _ => rfl⟩
    · rw [if_neg h2]; exact ⟨fun e => absurd e (by decide), fun e => absurd e h2⟩

set_option maxHeartbeats 4000000 in
set_option maxRecDepth 100000 in
theorem c_hasByte (l : Launch) (dC : Nat → ClassId) (dI : Nat → Nat → Nat) (ct : Nat) (pc9 : Nat) (tg : Nat) (fx : Nat) (bi : Int32) (ri : Int32) (ia : Int32) : Met l yC_hasByte (.code yC_hasByte cC_hasByte 2 (some .boolean) :: aw) ({ frames := 0, cells := 0, slots := 0, locals := 0 }) (pR (dC, dI) [(ct, .inr (5, [.ref pc9, .int bi, .ref tg, .ref fx, .int ri]))] [] [.ref ct, .int ia]) (vp_Si (fun r => (r = 1 ∧ (¬ ia < 0 ∧ ¬ bi ≤ ia)) ∨ (r = 0 ∧ (ia < 0 ∨ bi ≤ ia)))) 0 0 (fun _ => False) := by
  refine Met.ofW (cc := cC_hasByte) (maxL := 2) (ret := (some .boolean)) (by decide) rfl ?_
  intro p e s m args below meth c s₁ B hml hv
  obtain ⟨rfl, hv⟩ := hv
  have hx := B.exec
  have hb := B.bytes
  have hr := B.returns
  have hts : ∀ w ∈ aw, w.before _ s = true := fun w h => atoms_spec (ws := (.code yC_hasByte cC_hasByte 2 (some .boolean) :: aw)) B.pre w (List.mem_cons_of_mem _ h)
  have hown : s.vm.findClass RC = some m.cls := findClass_of_methodNamed B.named
  have hlocks := B.notSynchronized
  obtain ⟨hP, hK, hG⟩ := hv
  obtain ⟨H, hH⟩ : ∃ H, H = s.heap := ⟨_, rfl⟩
  rw [← hH] at hP ⊢
  have hl := lv_entry ([.ref ct, .int ia]) (n := 2) (Nat.le_of_ble_eq_true rfl)
  rw [lg_entry_eq]
  generalize (lg_sl ([.ref ct, .int ia]) ++ List.replicate (2 - (lg_sl ([.ref ct, .int ia])).length) Slot.unset).toArray = ls at hl ⊢
  have hl : lv_has ls 2 [(0, .ref ct), (1, .int ia)] := hl
  refine lv_iload_n (pc := 0) hx hb dC_hasByte_0 rfl (lv_at hl 1 rfl) ?_
  refine lv_if_lt (pc := 1) (tgt := 16) hx hb dC_hasByte_1 rfl (fun h1 => ?_) (fun h1 => ?_)
  · refine lv_iconst (pc := 16) (v := 0) hx hb dC_hasByte_16 (by decide) ?_
    exact W.zret (pc := 17) hx hb hr rfl (fun t ht hW => ⟨_, rfl, (Or.inr ⟨rfl, by first | assumption | exact ⟨by assumption, by assumption⟩ | exact Or.inl (by assumption) | exact Or.inr (by assumption) | exact Or.inr (Or.inl (by assumption)) | exact Or.inr (Or.inr (by assumption)) | simp_all⟩), ht.trans hH⟩) (fun q h => nomatch h) dC_hasByte_17
  · refine lv_iload_n (pc := 4) hx hb dC_hasByte_4 rfl (lv_at hl 1 rfl) ?_
    refine lv_aload_n (pc := 5) hx hb dC_hasByte_5 rfl (lv_at hl 0 rfl) ?_
    refine va_get (D := (dC, dI)) (cl := kCl) (C := RC) (T := TC) (N := 5) (pc := 6) hx hb hts inC hown hK hP 0 rfl rfl 1 (by decide) (hts _ wd_45) (fun _ h9 => h9) rfl dC_hasByte_6 ?_
    refine lv_icmp_ge (pc := 9) (tgt := 16) hx hb dC_hasByte_9 rfl (fun h2 => ?_) (fun h2 => ?_)
    · refine lv_iconst (pc := 16) (v := 0) hx hb dC_hasByte_16 (by decide) ?_
      exact W.zret (pc := 17) hx hb hr rfl (fun t ht hW => ⟨_, rfl, (Or.inr ⟨rfl, by first | assumption | exact ⟨by assumption, by assumption⟩ | exact Or.inl (by assumption) | exact Or.inr (by assumption) | exact Or.inr (Or.inl (by assumption)) | exact Or.inr (Or.inr (by assumption)) | simp_all⟩), ht.trans hH⟩) (fun q h => nomatch h) dC_hasByte_17
    · refine lv_iconst (pc := 12) (v := 1) hx hb dC_hasByte_12 (by decide) ?_
      refine lv_goto (pc := 13) (tgt := 17) hx hb dC_hasByte_13 rfl ?_
      exact W.zret (pc := 17) hx hb hr rfl (fun t ht hW => ⟨_, rfl, (Or.inl ⟨rfl, by first | assumption | exact ⟨by assumption, by assumption⟩ | exact Or.inl (by assumption) | exact Or.inr (by assumption) | exact Or.inr (Or.inl (by assumption)) | exact Or.inr (Or.inr (by assumption)) | simp_all⟩), ht.trans hH⟩) (fun q h => nomatch h) dC_hasByte_17
set_option maxHeartbeats 4000000 in
set_option maxRecDepth 100000 in
theorem c_hasReference (l : Launch) (dC : Nat → ClassId) (dI : Nat → Nat → Nat) (ct : Nat) (pc9 : Nat) (tg : Nat) (fx : Nat) (bi : Int32) (ri : Int32) (ia : Int32) : Met l yC_hasReference (.code yC_hasReference cC_hasReference 2 (some .boolean) :: aw) ({ frames := 0, cells := 0, slots := 0, locals := 0 }) (pR (dC, dI) [(ct, .inr (5, [.ref pc9, .int bi, .ref tg, .ref fx, .int ri]))] [] [.ref ct, .int ia]) (vp_Si (fun r => (r = 1 ∧ (¬ ia < 0 ∧ ¬ ri ≤ ia)) ∨ (r = 0 ∧ (ia < 0 ∨ ri ≤ ia)))) 0 0 (fun _ => False) := by
  refine Met.ofW (cc := cC_hasReference) (maxL := 2) (ret := (some .boolean)) (by decide) rfl ?_
  intro p e s m args below meth c s₁ B hml hv
  obtain ⟨rfl, hv⟩ := hv
  have hx := B.exec
  have hb := B.bytes
  have hr := B.returns
  have hts : ∀ w ∈ aw, w.before _ s = true := fun w h => atoms_spec (ws := (.code yC_hasReference cC_hasReference 2 (some .boolean) :: aw)) B.pre w (List.mem_cons_of_mem _ h)
  have hown : s.vm.findClass RC = some m.cls := findClass_of_methodNamed B.named
  have hlocks := B.notSynchronized
  obtain ⟨hP, hK, hG⟩ := hv
  obtain ⟨H, hH⟩ : ∃ H, H = s.heap := ⟨_, rfl⟩
  rw [← hH] at hP ⊢
  have hl := lv_entry ([.ref ct, .int ia]) (n := 2) (Nat.le_of_ble_eq_true rfl)
  rw [lg_entry_eq]
  generalize (lg_sl ([.ref ct, .int ia]) ++ List.replicate (2 - (lg_sl ([.ref ct, .int ia])).length) Slot.unset).toArray = ls at hl ⊢
  have hl : lv_has ls 2 [(0, .ref ct), (1, .int ia)] := hl
  refine lv_iload_n (pc := 0) hx hb dC_hasReference_0 rfl (lv_at hl 1 rfl) ?_
  refine lv_if_lt (pc := 1) (tgt := 16) hx hb dC_hasReference_1 rfl (fun h1 => ?_) (fun h1 => ?_)
  · refine lv_iconst (pc := 16) (v := 0) hx hb dC_hasReference_16 (by decide) ?_
    exact W.zret (pc := 17) hx hb hr rfl (fun t ht hW => ⟨_, rfl, (Or.inr ⟨rfl, by first | assumption | exact ⟨by assumption, by assumption⟩ | exact Or.inl (by assumption) | exact Or.inr (by assumption) | exact Or.inr (Or.inl (by assumption)) | exact Or.inr (Or.inr (by assumption)) | simp_all⟩), ht.trans hH⟩) (fun q h => nomatch h) dC_hasReference_17
  · refine lv_iload_n (pc := 4) hx hb dC_hasReference_4 rfl (lv_at hl 1 rfl) ?_
    refine lv_aload_n (pc := 5) hx hb dC_hasReference_5 rfl (lv_at hl 0 rfl) ?_
    refine va_get (D := (dC, dI)) (cl := kCl) (C := RC) (T := TC) (N := 5) (pc := 6) hx hb hts inC hown hK hP 0 rfl rfl 4 (by decide) (hts _ wd_46) (fun _ h9 => h9) rfl dC_hasReference_6 ?_
    refine lv_icmp_ge (pc := 9) (tgt := 16) hx hb dC_hasReference_9 rfl (fun h2 => ?_) (fun h2 => ?_)
    · refine lv_iconst (pc := 16) (v := 0) hx hb dC_hasReference_16 (by decide) ?_
      exact W.zret (pc := 17) hx hb hr rfl (fun t ht hW => ⟨_, rfl, (Or.inr ⟨rfl, by first | assumption | exact ⟨by assumption, by assumption⟩ | exact Or.inl (by assumption) | exact Or.inr (by assumption) | exact Or.inr (Or.inl (by assumption)) | exact Or.inr (Or.inr (by assumption)) | simp_all⟩), ht.trans hH⟩) (fun q h => nomatch h) dC_hasReference_17
    · refine lv_iconst (pc := 12) (v := 1) hx hb dC_hasReference_12 (by decide) ?_
      refine lv_goto (pc := 13) (tgt := 17) hx hb dC_hasReference_13 rfl ?_
      exact W.zret (pc := 17) hx hb hr rfl (fun t ht hW => ⟨_, rfl, (Or.inl ⟨rfl, by first | assumption | exact ⟨by assumption, by assumption⟩ | exact Or.inl (by assumption) | exact Or.inr (by assumption) | exact Or.inr (Or.inl (by assumption)) | exact Or.inr (Or.inr (by assumption)) | simp_all⟩), ht.trans hH⟩) (fun q h => nomatch h) dC_hasReference_17
set_option maxHeartbeats 4000000 in
set_option maxRecDepth 100000 in
theorem c_shiftOf (l : Launch) (dC : Nat → ClassId) (dI : Nat → Nat → Nat) (ia : Int32) : Met l yC_shiftOf (.code yC_shiftOf cC_shiftOf 1 (some .int) :: aw) ({ frames := 0, cells := 0, slots := 0, locals := 0 }) (pR (dC, dI) [] [] [.int ia]) (vp_Si (fun r => r = (c_sh ia))) 0 0 (fun _ => False) := by
  refine Met.ofW (cc := cC_shiftOf) (maxL := 1) (ret := (some .int)) (by decide) rfl ?_
  intro p e s m args below meth c s₁ B hml hv
  obtain ⟨rfl, hv⟩ := hv
  have hx := B.exec
  have hb := B.bytes
  have hr := B.returns
  have hts : ∀ w ∈ aw, w.before _ s = true := fun w h => atoms_spec (ws := (.code yC_shiftOf cC_shiftOf 1 (some .int) :: aw)) B.pre w (List.mem_cons_of_mem _ h)
  have hown : s.vm.findClass RC = some m.cls := findClass_of_methodNamed B.named
  have hlocks := B.notSynchronized
  obtain ⟨hP, hK, hG⟩ := hv
  obtain ⟨H, hH⟩ : ∃ H, H = s.heap := ⟨_, rfl⟩
  rw [← hH] at hP ⊢
  have hl := lv_entry ([.int ia]) (n := 1) (Nat.le_of_ble_eq_true rfl)
  rw [lg_entry_eq]
  generalize (lg_sl ([.int ia]) ++ List.replicate (1 - (lg_sl ([.int ia])).length) Slot.unset).toArray = ls at hl ⊢
  have hl : lv_has ls 1 [(0, .int ia)] := hl
  refine lv_iload_n (pc := 0) hx hb dC_shiftOf_0 rfl (lv_at hl 0 rfl) ?_
  refine lv_bipush (pc := 1) (v := 8) hx hb dC_shiftOf_1 (by decide) ?_
  refine lv_irem (pc := 3) hx hb dC_shiftOf_3 (by decide) ?_
  refine lv_bipush (pc := 4) (v := 8) hx hb dC_shiftOf_4 (by decide) ?_
  refine lv_imul (pc := 6) hx hb dC_shiftOf_6 ?_
  exact W.iret (pc := 7) hx hb hr (fun t ht hW => ⟨_, rfl, rfl, ht.trans hH⟩) (fun q h => nomatch h) dC_shiftOf_7
set_option maxHeartbeats 4000000 in
set_option maxRecDepth 100000 in
theorem c_byteAt (l : Launch) (dC : Nat → ClassId) (dI : Nat → Nat → Nat) (ct : Nat) (pc9 : Nat) (tg : Nat) (fx : Nat) (bi : Int32) (ri : Int32) (cP : ClassId) (fp : Nat → Int64) (ia : Int32) (h8 : vp_in (ia / 8) 8) : Met l yC_byteAt (.code yC_byteAt cC_byteAt 2 (some .int) :: aw) ({ frames := 1, cells := 0, slots := 0, locals := 20 }) (pR (dC, dI) [(ct, .inr (5, [.ref pc9, .int bi, .ref tg, .ref fx, .int ri])), (pc9, .inl (cP, 8, .inr (.inl fp)))] [(cP, .long)] [.ref ct, .int ia]) (vp_Si (fun r => r = (c_byte fp ia))) 0 0 (fun _ => False) := by
  refine Met.ofW (cc := cC_byteAt) (maxL := 2) (ret := (some .int)) (by decide) rfl ?_
  intro p e s m args below meth c s₁ B hml hv
  obtain ⟨rfl, hv⟩ := hv
  have hx := B.exec
  have hb := B.bytes
  have hr := B.returns
  have hts : ∀ w ∈ aw, w.before _ s = true := fun w h => atoms_spec (ws := (.code yC_byteAt cC_byteAt 2 (some .int) :: aw)) B.pre w (List.mem_cons_of_mem _ h)
  have hown : s.vm.findClass RC = some m.cls := findClass_of_methodNamed B.named
  have hlocks := B.notSynchronized
  obtain ⟨hP, hK, hG⟩ := hv
  obtain ⟨H, hH⟩ : ∃ H, H = s.heap := ⟨_, rfl⟩
  rw [← hH] at hP ⊢
  have hl := lv_entry ([.ref ct, .int ia]) (n := 2) (Nat.le_of_ble_eq_true rfl)
  rw [lg_entry_eq]
  generalize (lg_sl ([.ref ct, .int ia]) ++ List.replicate (2 - (lg_sl ([.ref ct, .int ia])).length) Slot.unset).toArray = ls at hl ⊢
  have hl : lv_has ls 2 [(0, .ref ct), (1, .int ia)] := hl
  refine lv_aload_n (pc := 0) hx hb dC_byteAt_0 rfl (lv_at hl 0 rfl) ?_
  refine va_get (D := (dC, dI)) (cl := kCl) (C := RC) (T := TC) (N := 5) (pc := 1) hx hb hts inC hown hK hP 0 rfl rfl 0 (by decide) (hts _ wd_47) (fun _ h9 => h9) rfl dC_byteAt_1 ?_
  refine lv_iload_n (pc := 4) hx hb dC_byteAt_4 rfl (lv_at hl 1 rfl) ?_
  refine lv_bipush (pc := 5) (v := 8) hx hb dC_byteAt_5 (by decide) ?_
  refine lv_idiv (pc := 7) hx hb dC_byteAt_7 (by decide) ?_
  refine va_lald (D := (dC, dI)) (cl := kCl) (pc := 8) hx hb hK hP 1 0 rfl rfl (h8) dC_byteAt_8 ?_
  refine W.eq (g2 := F0 m 9 ls [.long (fp ((ia / 8) : Int32).toNatClampNeg)]) rfl ?_
  refine lv_iload_n (pc := 9) hx hb dC_byteAt_9 rfl (lv_at hl 1 rfl) ?_
  refine vp_callSi (pc := 10) (W.runS (As := [.int ia]) (rest := [.long (fp ((ia / 8) : Int32).toNatClampNeg)]) ⟨hx, hb, hml, hown, hts⟩ (c_shiftOf l dC dI ia) (cwS 1 hts (gS wd_49 wd_50 wd_51 wd_48) rfl rfl rfl (by decide +kernel) ⟨Nat.le_of_ble_eq_true rfl, Nat.le_of_ble_eq_true rfl⟩) ⟨pR_blind, pR_pre (hP.sub (ws' := []) [] rfl) (hK.sub (tys' := []) [] rfl) hG⟩ rfl rfl hl.1 rfl (lv_room (Nat.le_of_ble_eq_true rfl)) dC_byteAt_10 ⟨Nat.le_of_ble_eq_true rfl, Nat.le_of_ble_eq_true rfl⟩) (fun r1 hr2 => ?_)
  obtain rfl : r1 = (c_sh ia) := hr2
  refine lv_lushr (pc := 13) hx hb dC_byteAt_13 rfl ?_
  refine lv_l2i (pc := 14) hx hb dC_byteAt_14 rfl ?_
  refine lv_sipush (pc := 15) (v := 255) hx hb dC_byteAt_15 (by decide) ?_
  refine lv_iand (pc := 18) hx hb dC_byteAt_18 ?_
  exact W.iret (pc := 19) hx hb hr (fun t ht hW => ⟨_, rfl, rfl, ht.trans hH⟩) (fun q h => nomatch h) dC_byteAt_19
set_option maxHeartbeats 4000000 in
set_option maxRecDepth 100000 in
theorem c_setByte (l : Launch) (dC : Nat → ClassId) (dI : Nat → Nat → Nat) (sz : Nat) (ct : Nat) (pc9 : Nat) (tg : Nat) (fx : Nat) (bi : Int32) (ri : Int32) (cP : ClassId) (fp : Nat → Int64) (ia : Int32) (va : Int32) (h8 : vp_in (ia / 8) 8) : Met l yC_setByte (.code yC_setByte cC_setByte 5 none :: aw) ({ frames := 1, cells := 0, slots := 0, locals := 20 }) (pW (dC, dI) sz [(ct, .inr (5, [.ref pc9, .int bi, .ref tg, .ref fx, .int ri])), (pc9, .inl (cP, 8, .inr (.inl fp)))] [(cP, .long)] [.ref ct, .int ia, .int va]) (va_Qv (fun (_ : Unit) => True) (fun _ t => wW (dC, dI) (va_A [(ct, .inr (5, [.ref pc9, .int bi, .ref tg, .ref fx, .int ri])), (pc9, .inl (cP, 8, .inr (.inl fp)))] sz) [(ct, .inr (5, [.ref pc9, .int bi, .ref tg, .ref fx, .int ri])), (pc9, .inl (cP, 8, .inr (.inl (c_set fp ia va))))] [(cP, .long)] t) (va_A [(ct, .inr (5, [.ref pc9, .int bi, .ref tg, .ref fx, .int ri])), (pc9, .inl (cP, 8, .inr (.inl fp)))] sz)) 0 0 (va_A [(ct, .inr (5, [.ref pc9, .int bi, .ref tg, .ref fx, .int ri])), (pc9, .inl (cP, 8, .inr (.inl fp)))] sz) := by
  refine Met.ofW (cc := cC_setByte) (maxL := 5) (ret := none) (by decide) rfl ?_
  intro p e s m args below meth c s₁ B hml hv
  obtain ⟨rfl, hv⟩ := hv
  have hx := B.exec
  have hb := B.bytes
  have hr := B.returns
  have hts : ∀ w ∈ aw, w.before _ s = true := fun w h => atoms_spec (ws := (.code yC_setByte cC_setByte 5 none :: aw)) B.pre w (List.mem_cons_of_mem _ h)
  have hown : s.vm.findClass RC = some m.cls := findClass_of_methodNamed B.named
  have hlocks := B.notSynchronized
  obtain ⟨hsz, hP, hK, hD0, hG⟩ := hv
  subst hsz
  have hD := hD0.self (sz := s.heap.size)
  generalize hAe : va_A [(ct, .inr (5, [.ref pc9, .int bi, .ref tg, .ref fx, .int ri])), (pc9, .inl (cP, 8, .inr (.inl fp)))] s.heap.size = A at hD ⊢
  have hA : ∀ q : Nat, s.heap.size ≤ q → A q := fun q h => by rw [← hAe]; exact Or.inr h
  obtain ⟨H, hH⟩ : ∃ H, H = s.heap := ⟨_, rfl⟩
  have hS : va_S A s.heap H [] := by rw [hH]; exact va_S.rf
  rw [← hH] at hP ⊢
  have hP : va_P (dC, dI) kCl [(ct, .inr (5, [.ref pc9, .int bi, .ref tg, .ref fx, .int ri])), (pc9, .inl (cP, 8, .inr (.inl fp)))] H := hP
  have hl := lv_entry ([.ref ct, .int ia, .int va]) (n := 5) (Nat.le_of_ble_eq_true rfl)
  rw [lg_entry_eq]
  generalize (lg_sl ([.ref ct, .int ia, .int va]) ++ List.replicate (5 - (lg_sl ([.ref ct, .int ia, .int va])).length) Slot.unset).toArray = ls at hl ⊢
  have hl : lv_has ls 5 [(0, .ref ct), (1, .int ia), (2, .int va)] := hl
  refine lv_aload_n (pc := 0) hx hb dC_setByte_0 rfl (lv_at hl 0 rfl) ?_
  refine va_get (D := (dC, dI)) (cl := kCl) (C := RC) (T := TC) (N := 5) (pc := 1) hx hb hts inC hown hK hP 0 rfl rfl 0 (by decide) (hts _ wd_47) (fun _ h9 => h9) rfl dC_setByte_1 ?_
  refine lv_iload_n (pc := 4) hx hb dC_setByte_4 rfl (lv_at hl 1 rfl) ?_
  refine lv_bipush (pc := 5) (v := 8) hx hb dC_setByte_5 (by decide) ?_
  refine lv_idiv (pc := 7) hx hb dC_setByte_7 (by decide) ?_
  refine va_lald (D := (dC, dI)) (cl := kCl) (pc := 8) hx hb hK hP 1 0 rfl rfl (h8) dC_setByte_8 ?_
  refine W.eq (g2 := F0 m 9 ls [.long (fp ((ia / 8) : Int32).toNatClampNeg)]) rfl ?_
  refine lv_ldc2 (pc := 9) (v := 255) hx hb hown (hts _ wd_52) dC_setByte_9 ?_
  refine lv_iload_n (pc := 12) hx hb dC_setByte_12 rfl (lv_at hl 1 rfl) ?_
  refine vp_callSi (pc := 13) (W.runS (As := [.int ia]) (rest := [.long 255, .long (fp ((ia / 8) : Int32).toNatClampNeg)]) ⟨hx, hb, hml, hown, hts⟩ (c_shiftOf l dC dI ia) (cwS 1 hts (gS wd_49 wd_50 wd_51 wd_48) rfl rfl rfl (by decide +kernel) ⟨Nat.le_of_ble_eq_true rfl, Nat.le_of_ble_eq_true rfl⟩) ⟨pR_blind, pR_pre (hP.sub (ws' := []) [] rfl) (hK.sub (tys' := []) [] rfl) hG⟩ rfl rfl hl.1 rfl (lv_room (Nat.le_of_ble_eq_true rfl)) dC_setByte_13 ⟨Nat.le_of_ble_eq_true rfl, Nat.le_of_ble_eq_true rfl⟩) (fun r1 hr2 => ?_)
  obtain rfl : r1 = (c_sh ia) := hr2
  refine lv_lshl (pc := 16) hx hb dC_setByte_16 rfl ?_
  refine lv_ldc2 (pc := 17) (v := (-1)) hx hb hown (hts _ wd_53) dC_setByte_17 ?_
  refine lv_lxor (pc := 20) hx hb dC_setByte_20 ?_
  refine lv_land (pc := 21) hx hb dC_setByte_21 ?_
  refine lv_lstore_n (pc := 22) hx hb dC_setByte_22 rfl hl (by decide) rfl (fun ls hl => ?_)
  have hl : lv_has ls 5 [(3, .long ((fp ((ia / 8) : Int32).toNatClampNeg) &&& ((255 <<< ((c_sh ia).toInt64 &&& 63)) ^^^ (-1)))), (0, .ref ct), (1, .int ia), (2, .int va)] := hl
  refine lv_aload_n (pc := 23) hx hb dC_setByte_23 rfl (lv_at hl 1 rfl) ?_
  refine va_get (D := (dC, dI)) (cl := kCl) (C := RC) (T := TC) (N := 5) (pc := 24) hx hb hts inC hown hK hP 0 rfl rfl 0 (by decide) (hts _ wd_47) (fun _ h9 => h9) rfl dC_setByte_24 ?_
  refine lv_iload_n (pc := 27) hx hb dC_setByte_27 rfl (lv_at hl 2 rfl) ?_
  refine lv_bipush (pc := 28) (v := 8) hx hb dC_setByte_28 (by decide) ?_
  refine lv_idiv (pc := 30) hx hb dC_setByte_30 (by decide) ?_
  refine lv_lload_n (pc := 31) hx hb dC_setByte_31 rfl (lv_at hl 0 rfl) ?_
  refine lv_iload_n (pc := 32) hx hb dC_setByte_32 rfl (lv_at hl 3 rfl) ?_
  refine lv_i2l (pc := 33) hx hb dC_setByte_33 rfl ?_
  refine lv_iload_n (pc := 34) hx hb dC_setByte_34 rfl (lv_at hl 2 rfl) ?_
  refine vp_callSi (pc := 35) (W.runS (As := [.int ia]) (rest := [.long (va).toInt64, .long ((fp ((ia / 8) : Int32).toNatClampNeg) &&& ((255 <<< ((c_sh ia).toInt64 &&& 63)) ^^^ (-1))), .int (ia / 8), .ref pc9]) ⟨hx, hb, hml, hown, hts⟩ (c_shiftOf l dC dI ia) (cwS 1 hts (gS wd_49 wd_50 wd_51 wd_48) rfl rfl rfl (by decide +kernel) ⟨Nat.le_of_ble_eq_true rfl, Nat.le_of_ble_eq_true rfl⟩) ⟨pR_blind, pR_pre (hP.sub (ws' := []) [] rfl) (hK.sub (tys' := []) [] rfl) hG⟩ rfl rfl hl.1 rfl (lv_room (Nat.le_of_ble_eq_true rfl)) dC_setByte_35 ⟨Nat.le_of_ble_eq_true rfl, Nat.le_of_ble_eq_true rfl⟩) (fun r3 hr4 => ?_)
  obtain rfl : r3 = (c_sh ia) := hr4
  refine lv_lshl (pc := 38) hx hb dC_setByte_38 rfl ?_
  refine lv_lor (pc := 39) hx hb dC_setByte_39 ?_
  refine va_last (D := (dC, dI)) (cl := kCl) (pc := 40) hx hb hK hP hD hS 1 0 rfl rfl (h8) dC_setByte_40 (fun H locs hP hD hS => ?_)
  have hP : va_P (dC, dI) kCl [(ct, .inr (5, [.ref pc9, .int bi, .ref tg, .ref fx, .int ri])), (pc9, .inl (cP, 8, .inr (.inl (vp_updL fp ((ia / 8) : Int32).toNatClampNeg (((fp ((ia / 8) : Int32).toNatClampNeg) &&& ((255 <<< ((c_sh ia).toInt64 &&& 63)) ^^^ (-1))) ||| ((va).toInt64 <<< ((c_sh ia).toInt64 &&& 63)))))))] H := hP
  have hD : va_D A [(ct, .inr (5, [.ref pc9, .int bi, .ref tg, .ref fx, .int ri])), (pc9, .inl (cP, 8, .inr (.inl (vp_updL fp ((ia / 8) : Int32).toNatClampNeg (((fp ((ia / 8) : Int32).toNatClampNeg) &&& ((255 <<< ((c_sh ia).toInt64 &&& 63)) ^^^ (-1))) ||| ((va).toInt64 <<< ((c_sh ia).toInt64 &&& 63)))))))] := hD
  have hP9 := hP.sub (ws' := [(ct, .inr (5, [.ref pc9, .int bi, .ref tg, .ref fx, .int ri])), (pc9, .inl (cP, 8, .inr (.inl (c_set fp ia va))))]) [0, 1] rfl
  have hD9 := hD.sub (ws' := [(ct, .inr (5, [.ref pc9, .int bi, .ref tg, .ref fx, .int ri])), (pc9, .inl (cP, 8, .inr (.inl (c_set fp ia va))))]) [0, 1] (by decide) rfl
  have hK9 := hK.sub (tys' := [(cP, .long)]) [0] rfl
  exact W.vret (pc := 41) hx hb hr (fun t ht hW => ⟨⟨(), rfl, trivial, by rw [ht]; exact hP9, va_K.moved hW.alike hK9, hD9⟩, hS.F ht⟩) hS.2.2 dC_setByte_41
set_option maxHeartbeats 4000000 in
set_option maxRecDepth 100000 in
theorem c_pieceCount (l : Launch) (dC : Nat → ClassId) (dI : Nat → Nat → Nat) (ct : Nat) (pc9 : Nat) (tg : Nat) (fx : Nat) (bi : Int32) (ri : Int32) : Met l yC_pieceCount (.code yC_pieceCount cC_pieceCount 1 (some .int) :: aw) ({ frames := 0, cells := 0, slots := 0, locals := 0 }) (pR (dC, dI) [(ct, .inr (5, [.ref pc9, .int bi, .ref tg, .ref fx, .int ri]))] [] [.ref ct]) (vp_Si (fun r => r = ((bi + 8 - 1) / 8))) 0 0 (fun _ => False) := by
  refine Met.ofW (cc := cC_pieceCount) (maxL := 1) (ret := (some .int)) (by decide) rfl ?_
  intro p e s m args below meth c s₁ B hml hv
  obtain ⟨rfl, hv⟩ := hv
  have hx := B.exec
  have hb := B.bytes
  have hr := B.returns
  have hts : ∀ w ∈ aw, w.before _ s = true := fun w h => atoms_spec (ws := (.code yC_pieceCount cC_pieceCount 1 (some .int) :: aw)) B.pre w (List.mem_cons_of_mem _ h)
  have hown : s.vm.findClass RC = some m.cls := findClass_of_methodNamed B.named
  have hlocks := B.notSynchronized
  obtain ⟨hP, hK, hG⟩ := hv
  obtain ⟨H, hH⟩ : ∃ H, H = s.heap := ⟨_, rfl⟩
  rw [← hH] at hP ⊢
  have hl := lv_entry ([.ref ct]) (n := 1) (Nat.le_of_ble_eq_true rfl)
  rw [lg_entry_eq]
  generalize (lg_sl ([.ref ct]) ++ List.replicate (1 - (lg_sl ([.ref ct])).length) Slot.unset).toArray = ls at hl ⊢
  have hl : lv_has ls 1 [(0, .ref ct)] := hl
  refine lv_aload_n (pc := 0) hx hb dC_pieceCount_0 rfl (lv_at hl 0 rfl) ?_
  refine va_get (D := (dC, dI)) (cl := kCl) (C := RC) (T := TC) (N := 5) (pc := 1) hx hb hts inC hown hK hP 0 rfl rfl 1 (by decide) (hts _ wd_45) (fun _ h9 => h9) rfl dC_pieceCount_1 ?_
  refine lv_bipush (pc := 4) (v := 8) hx hb dC_pieceCount_4 (by decide) ?_
  refine lv_iadd (pc := 6) hx hb dC_pieceCount_6 ?_
  refine lv_iconst (pc := 7) (v := 1) hx hb dC_pieceCount_7 (by decide) ?_
  refine lv_isub (pc := 8) hx hb dC_pieceCount_8 ?_
  refine lv_bipush (pc := 9) (v := 8) hx hb dC_pieceCount_9 (by decide) ?_
  refine lv_idiv (pc := 11) hx hb dC_pieceCount_11 (by decide) ?_
  exact W.iret (pc := 12) hx hb hr (fun t ht hW => ⟨_, rfl, rfl, ht.trans hH⟩) (fun q h => nomatch h) dC_pieceCount_12
set_option maxHeartbeats 4000000 in
set_option maxRecDepth 100000 in
theorem c_pieceLength (l : Launch) (dC : Nat → ClassId) (dI : Nat → Nat → Nat) (ct : Nat) (pc9 : Nat) (tg : Nat) (fx : Nat) (bi : Int32) (ri : Int32) (pl : Int32) : Met l yC_pieceLength (.code yC_pieceLength cC_pieceLength 2 (some .int) :: aw) ({ frames := 1, cells := 0, slots := 0, locals := 15 }) (pR (dC, dI) [(ct, .inr (5, [.ref pc9, .int bi, .ref tg, .ref fx, .int ri]))] [] [.ref ct, .int pl]) (vp_Si (fun r => r = (c_len bi pl))) 0 0 (fun _ => False) := by
  refine Met.ofW (cc := cC_pieceLength) (maxL := 2) (ret := (some .int)) (by decide) rfl ?_
  intro p e s m args below meth c s₁ B hml hv
  obtain ⟨rfl, hv⟩ := hv
  have hx := B.exec
  have hb := B.bytes
  have hr := B.returns
  have hts : ∀ w ∈ aw, w.before _ s = true := fun w h => atoms_spec (ws := (.code yC_pieceLength cC_pieceLength 2 (some .int) :: aw)) B.pre w (List.mem_cons_of_mem _ h)
  have hown : s.vm.findClass RC = some m.cls := findClass_of_methodNamed B.named
  have hlocks := B.notSynchronized
  obtain ⟨hP, hK, hG⟩ := hv
  obtain ⟨H, hH⟩ : ∃ H, H = s.heap := ⟨_, rfl⟩
  rw [← hH] at hP ⊢
  have hl := lv_entry ([.ref ct, .int pl]) (n := 2) (Nat.le_of_ble_eq_true rfl)
  rw [lg_entry_eq]
  generalize (lg_sl ([.ref ct, .int pl]) ++ List.replicate (2 - (lg_sl ([.ref ct, .int pl])).length) Slot.unset).toArray = ls at hl ⊢
  have hl : lv_has ls 2 [(0, .ref ct), (1, .int pl)] := hl
  refine lv_iconst (pc := 0) (v := 0) hx hb dC_pieceLength_0 (by decide) ?_
  refine lv_bipush (pc := 1) (v := 8) hx hb dC_pieceLength_1 (by decide) ?_
  refine lv_aload_n (pc := 3) hx hb dC_pieceLength_3 rfl (lv_at hl 0 rfl) ?_
  refine va_get (D := (dC, dI)) (cl := kCl) (C := RC) (T := TC) (N := 5) (pc := 4) hx hb hts inC hown hK hP 0 rfl rfl 1 (by decide) (hts _ wd_45) (fun _ h9 => h9) rfl dC_pieceLength_4 ?_
  refine lv_iload_n (pc := 7) hx hb dC_pieceLength_7 rfl (lv_at hl 1 rfl) ?_
  refine lv_bipush (pc := 8) (v := 8) hx hb dC_pieceLength_8 (by decide) ?_
  refine lv_imul (pc := 10) hx hb dC_pieceLength_10 ?_
  refine lv_isub (pc := 11) hx hb dC_pieceLength_11 ?_
  refine va_mmin (pc := 12) hx hb (hml.trans hl.1.symm) hown (hts _ wd_54) (hts _ wd_55) (hts _ wd_56) (hts _ wd_57) (Nat.le_of_ble_eq_true rfl) (Nat.le_of_ble_eq_true rfl) (Nat.le_of_ble_eq_true rfl) (Nat.le_of_ble_eq_true rfl) dC_pieceLength_12 ?_
  refine va_mmax (pc := 15) hx hb (hml.trans hl.1.symm) hown (hts _ wd_58) (hts _ wd_59) (hts _ wd_56) (hts _ wd_60) (Nat.le_of_ble_eq_true rfl) (Nat.le_of_ble_eq_true rfl) (Nat.le_of_ble_eq_true rfl) (Nat.le_of_ble_eq_true rfl) dC_pieceLength_15 ?_
  exact W.iret (pc := 18) hx hb hr (fun t ht hW => ⟨_, rfl, rfl, ht.trans hH⟩) (fun q h => nomatch h) dC_pieceLength_18
set_option maxHeartbeats 4000000 in
set_option maxRecDepth 100000 in
theorem c_setReference (l : Launch) (dC : Nat → ClassId) (dI : Nat → Nat → Nat) (sz : Nat) (ct : Nat) (pc9 : Nat) (tg : Nat) (fx : Nat) (bi : Int32) (ri : Int32) (cT : ClassId) (ft : Nat → Int32) (cX : ClassId) (ff : Nat → Int32) (ka : Int32) (tv : Int32) (fv9 : Int32) (h6 : vp_in ka 6) : Met l yC_setReference (.code yC_setReference cC_setReference 4 none :: aw) ({ frames := 1, cells := 0, slots := 0, locals := 15 }) (pW (dC, dI) sz [(ct, .inr (5, [.ref pc9, .int bi, .ref tg, .ref fx, .int ri])), (tg, .inl (cT, 6, .inl ft)), (fx, .inl (cX, 6, .inl ff))] [(cT, .int), (cX, .int)] [.ref ct, .int ka, .int tv, .int fv9]) (va_Qv (fun (_ : Unit) => True) (fun _ t => wW (dC, dI) (va_A [(ct, .inr (5, [.ref pc9, .int bi, .ref tg, .ref fx, .int ri])), (tg, .inl (cT, 6, .inl ft)), (fx, .inl (cX, 6, .inl ff))] sz) [(ct, .inr (5, [.ref pc9, .int bi, .ref tg, .ref fx, .int (if ri < ka + 1 then ka + 1 else ri)])), (tg, .inl (cT, 6, .inl (upd ft (ka : Int32).toNatClampNeg tv))), (fx, .inl (cX, 6, .inl (upd ff (ka : Int32).toNatClampNeg fv9)))] [(cT, .int), (cX, .int)] t) (va_A [(ct, .inr (5, [.ref pc9, .int bi, .ref tg, .ref fx, .int ri])), (tg, .inl (cT, 6, .inl ft)), (fx, .inl (cX, 6, .inl ff))] sz)) 0 0 (va_A [(ct, .inr (5, [.ref pc9, .int bi, .ref tg, .ref fx, .int ri])), (tg, .inl (cT, 6, .inl ft)), (fx, .inl (cX, 6, .inl ff))] sz) := by
  refine Met.ofW (cc := cC_setReference) (maxL := 4) (ret := none) (by decide) rfl ?_
  intro p e s m args below meth c s₁ B hml hv
  obtain ⟨rfl, hv⟩ := hv
  have hx := B.exec
  have hb := B.bytes
  have hr := B.returns
  have hts : ∀ w ∈ aw, w.before _ s = true := fun w h => atoms_spec (ws := (.code yC_setReference cC_setReference 4 none :: aw)) B.pre w (List.mem_cons_of_mem _ h)
  have hown : s.vm.findClass RC = some m.cls := findClass_of_methodNamed B.named
  have hlocks := B.notSynchronized
  obtain ⟨hsz, hP, hK, hD0, hG⟩ := hv
  subst hsz
  have hD := hD0.self (sz := s.heap.size)
  generalize hAe : va_A [(ct, .inr (5, [.ref pc9, .int bi, .ref tg, .ref fx, .int ri])), (tg, .inl (cT, 6, .inl ft)), (fx, .inl (cX, 6, .inl ff))] s.heap.size = A at hD ⊢
  have hA : ∀ q : Nat, s.heap.size ≤ q → A q := fun q h => by rw [← hAe]; exact Or.inr h
  obtain ⟨H, hH⟩ : ∃ H, H = s.heap := ⟨_, rfl⟩
  have hS : va_S A s.heap H [] := by rw [hH]; exact va_S.rf
  rw [← hH] at hP ⊢
  have hP : va_P (dC, dI) kCl [(ct, .inr (5, [.ref pc9, .int bi, .ref tg, .ref fx, .int ri])), (tg, .inl (cT, 6, .inl ft)), (fx, .inl (cX, 6, .inl ff))] H := hP
  have hl := lv_entry ([.ref ct, .int ka, .int tv, .int fv9]) (n := 4) (Nat.le_of_ble_eq_true rfl)
  rw [lg_entry_eq]
  generalize (lg_sl ([.ref ct, .int ka, .int tv, .int fv9]) ++ List.replicate (4 - (lg_sl ([.ref ct, .int ka, .int tv, .int fv9])).length) Slot.unset).toArray = ls at hl ⊢
  have hl : lv_has ls 4 [(0, .ref ct), (1, .int ka), (2, .int tv), (3, .int fv9)] := hl
  refine lv_aload_n (pc := 0) hx hb dC_setReference_0 rfl (lv_at hl 0 rfl) ?_
  refine va_get (D := (dC, dI)) (cl := kCl) (C := RC) (T := TC) (N := 5) (pc := 1) hx hb hts inC hown hK hP 0 rfl rfl 2 (by decide) (hts _ wd_61) (fun _ h9 => h9) rfl dC_setReference_1 ?_
  refine lv_iload_n (pc := 4) hx hb dC_setReference_4 rfl (lv_at hl 1 rfl) ?_
  refine lv_iload_n (pc := 5) hx hb dC_setReference_5 rfl (lv_at hl 2 rfl) ?_
  refine va_iast (D := (dC, dI)) (cl := kCl) (pc := 6) hx hb hK hP hD hS 1 0 rfl rfl (h6) dC_setReference_6 (fun H locs hP hD hS => ?_)
  have hP : va_P (dC, dI) kCl [(ct, .inr (5, [.ref pc9, .int bi, .ref tg, .ref fx, .int ri])), (tg, .inl (cT, 6, .inl (upd ft (ka : Int32).toNatClampNeg tv))), (fx, .inl (cX, 6, .inl ff))] H := hP
  have hD : va_D A [(ct, .inr (5, [.ref pc9, .int bi, .ref tg, .ref fx, .int ri])), (tg, .inl (cT, 6, .inl (upd ft (ka : Int32).toNatClampNeg tv))), (fx, .inl (cX, 6, .inl ff))] := hD
  refine lv_aload_n (pc := 7) hx hb dC_setReference_7 rfl (lv_at hl 0 rfl) ?_
  refine va_get (D := (dC, dI)) (cl := kCl) (C := RC) (T := TC) (N := 5) (pc := 8) hx hb hts inC hown hK hP 0 rfl rfl 3 (by decide) (hts _ wd_62) (fun _ h9 => h9) rfl dC_setReference_8 ?_
  refine lv_iload_n (pc := 11) hx hb dC_setReference_11 rfl (lv_at hl 1 rfl) ?_
  refine lv_iload_n (pc := 12) hx hb dC_setReference_12 rfl (lv_at hl 3 rfl) ?_
  refine va_iast (D := (dC, dI)) (cl := kCl) (pc := 13) hx hb hK hP hD hS 2 1 rfl rfl (h6) dC_setReference_13 (fun H locs hP hD hS => ?_)
  have hP : va_P (dC, dI) kCl [(ct, .inr (5, [.ref pc9, .int bi, .ref tg, .ref fx, .int ri])), (tg, .inl (cT, 6, .inl (upd ft (ka : Int32).toNatClampNeg tv))), (fx, .inl (cX, 6, .inl (upd ff (ka : Int32).toNatClampNeg fv9)))] H := hP
  have hD : va_D A [(ct, .inr (5, [.ref pc9, .int bi, .ref tg, .ref fx, .int ri])), (tg, .inl (cT, 6, .inl (upd ft (ka : Int32).toNatClampNeg tv))), (fx, .inl (cX, 6, .inl (upd ff (ka : Int32).toNatClampNeg fv9)))] := hD
  refine lv_aload_n (pc := 14) hx hb dC_setReference_14 rfl (lv_at hl 0 rfl) ?_
  refine lv_aload_n (pc := 15) hx hb dC_setReference_15 rfl (lv_at hl 0 rfl) ?_
  refine va_get (D := (dC, dI)) (cl := kCl) (C := RC) (T := TC) (N := 5) (pc := 16) hx hb hts inC hown hK hP 0 rfl rfl 4 (by decide) (hts _ wd_46) (fun _ h9 => h9) rfl dC_setReference_16 ?_
  refine lv_iload_n (pc := 19) hx hb dC_setReference_19 rfl (lv_at hl 1 rfl) ?_
  refine lv_iconst (pc := 20) (v := 1) hx hb dC_setReference_20 (by decide) ?_
  refine lv_iadd (pc := 21) hx hb dC_setReference_21 ?_
  refine va_mmax (pc := 22) hx hb (hml.trans hl.1.symm) hown (hts _ wd_58) (hts _ wd_59) (hts _ wd_56) (hts _ wd_60) (Nat.le_of_ble_eq_true rfl) (Nat.le_of_ble_eq_true rfl) (Nat.le_of_ble_eq_true rfl) (Nat.le_of_ble_eq_true rfl) dC_setReference_22 ?_
  refine va_put (D := (dC, dI)) (cl := kCl) (ci := 5) (v := .int (if ri < (ka + 1) then (ka + 1) else ri)) (ty := .int) (C := RC) (T := TC) (N := 5) (pc := 25) hx hb hts inC tyC tyC_ok nmC hown hK hP hD hS 0 rfl rfl 4 (by decide) (hts _ wd_46) (fun _ h9 => h9) rfl (by decide +kernel) rfl rfl (Nat.le_of_ble_eq_true rfl) dC_setReference_25 (fun H locs hP hD hS => ?_)
  have hP : va_P (dC, dI) kCl [(ct, .inr (5, [.ref pc9, .int bi, .ref tg, .ref fx, .int (if ri < (ka + 1) then (ka + 1) else ri)])), (tg, .inl (cT, 6, .inl (upd ft (ka : Int32).toNatClampNeg tv))), (fx, .inl (cX, 6, .inl (upd ff (ka : Int32).toNatClampNeg fv9)))] H := hP
  have hD : va_D A [(ct, .inr (5, [.ref pc9, .int bi, .ref tg, .ref fx, .int (if ri < (ka + 1) then (ka + 1) else ri)])), (tg, .inl (cT, 6, .inl (upd ft (ka : Int32).toNatClampNeg tv))), (fx, .inl (cX, 6, .inl (upd ff (ka : Int32).toNatClampNeg fv9)))] := hD
  have hP9 := hP.sub (ws' := [(ct, .inr (5, [.ref pc9, .int bi, .ref tg, .ref fx, .int (if ri < ka + 1 then ka + 1 else ri)])), (tg, .inl (cT, 6, .inl (upd ft (ka : Int32).toNatClampNeg tv))), (fx, .inl (cX, 6, .inl (upd ff (ka : Int32).toNatClampNeg fv9)))]) [0, 1, 2] rfl
  have hD9 := hD.sub (ws' := [(ct, .inr (5, [.ref pc9, .int bi, .ref tg, .ref fx, .int (if ri < ka + 1 then ka + 1 else ri)])), (tg, .inl (cT, 6, .inl (upd ft (ka : Int32).toNatClampNeg tv))), (fx, .inl (cX, 6, .inl (upd ff (ka : Int32).toNatClampNeg fv9)))]) [0, 1, 2] (by decide) rfl
  have hK9 := hK.sub (tys' := [(cT, .int), (cX, .int)]) [0, 1] rfl
  exact W.vret (pc := 28) hx hb hr (fun t ht hW => ⟨⟨(), rfl, trivial, by rw [ht]; exact hP9, va_K.moved hW.alike hK9, hD9⟩, hS.F ht⟩) hS.2.2 dC_setReference_28
set_option maxHeartbeats 4000000 in
set_option maxRecDepth 100000 in
theorem c_takeFrom (l : Launch) (dC : Nat → ClassId) (dI : Nat → Nat → Nat) (sz : Nat) (ct : Nat) (pc9 : Nat) (tg : Nat) (fx : Nat) (bi : Int32) (ri : Int32) (cP : ClassId) (fp : Nat → Int64) (cT : ClassId) (ft : Nat → Int32) (cX : ClassId) (ff : Nat → Int32) (oc : Nat) (op9 : Nat) (og : Nat) (ox : Nat) (bo : Int32) (ro : Int32) (dP : ClassId) (gp : Nat → Int64) (dT : ClassId) (gt : Nat → Int32) (dX : ClassId) (gf : Nat → Int32) : Met l yC_takeFrom (.code yC_takeFrom cC_takeFrom 2 none :: aw) ({ frames := 1, cells := 0, slots := 0, locals := 40 }) (pW (dC, dI) sz [(ct, .inr (5, [.ref pc9, .int bi, .ref tg, .ref fx, .int ri])), (pc9, .inl (cP, 8, .inr (.inl fp))), (tg, .inl (cT, 6, .inl ft)), (fx, .inl (cX, 6, .inl ff)), (oc, .inr (5, [.ref op9, .int bo, .ref og, .ref ox, .int ro])), (op9, .inl (dP, 8, .inr (.inl gp))), (og, .inl (dT, 6, .inl gt)), (ox, .inl (dX, 6, .inl gf))] [(cP, .long), (cT, .int), (cX, .int), (dP, .long), (dT, .int), (dX, .int)] [.ref ct, .ref oc]) (va_Qv (fun (_ : Unit) => True) (fun _ t => wW (dC, dI) (va_A [(ct, .inr (5, [.ref pc9, .int bi, .ref tg, .ref fx, .int ri])), (pc9, .inl (cP, 8, .inr (.inl fp))), (tg, .inl (cT, 6, .inl ft)), (fx, .inl (cX, 6, .inl ff)), (oc, .inr (5, [.ref op9, .int bo, .ref og, .ref ox, .int ro])), (op9, .inl (dP, 8, .inr (.inl gp))), (og, .inl (dT, 6, .inl gt)), (ox, .inl (dX, 6, .inl gf))] sz) [(ct, .inr (5, [.ref pc9, .int bo, .ref tg, .ref fx, .int ro])), (pc9, .inl (cP, 8, .inr (.inl (va_cpy gp fp (0 : Int32).toNatClampNeg (0 : Int32).toNatClampNeg (8 : Int32).toNatClampNeg)))), (tg, .inl (cT, 6, .inl (va_cpy gt ft (0 : Int32).toNatClampNeg (0 : Int32).toNatClampNeg (6 : Int32).toNatClampNeg))), (fx, .inl (cX, 6, .inl (va_cpy gf ff (0 : Int32).toNatClampNeg (0 : Int32).toNatClampNeg (6 : Int32).toNatClampNeg))), (oc, .inr (5, [.ref op9, .int bo, .ref og, .ref ox, .int ro])), (op9, .inl (dP, 8, .inr (.inl gp))), (og, .inl (dT, 6, .inl gt)), (ox, .inl (dX, 6, .inl gf))] [(cP, .long), (cT, .int), (cX, .int), (dP, .long), (dT, .int), (dX, .int)] t) (va_A [(ct, .inr (5, [.ref pc9, .int bi, .ref tg, .ref fx, .int ri])), (pc9, .inl (cP, 8, .inr (.inl fp))), (tg, .inl (cT, 6, .inl ft)), (fx, .inl (cX, 6, .inl ff)), (oc, .inr (5, [.ref op9, .int bo, .ref og, .ref ox, .int ro])), (op9, .inl (dP, 8, .inr (.inl gp))), (og, .inl (dT, 6, .inl gt)), (ox, .inl (dX, 6, .inl gf))] sz)) 0 0 (va_A [(ct, .inr (5, [.ref pc9, .int bi, .ref tg, .ref fx, .int ri])), (pc9, .inl (cP, 8, .inr (.inl fp))), (tg, .inl (cT, 6, .inl ft)), (fx, .inl (cX, 6, .inl ff)), (oc, .inr (5, [.ref op9, .int bo, .ref og, .ref ox, .int ro])), (op9, .inl (dP, 8, .inr (.inl gp))), (og, .inl (dT, 6, .inl gt)), (ox, .inl (dX, 6, .inl gf))] sz) := by
  refine Met.ofW (cc := cC_takeFrom) (maxL := 2) (ret := none) (by decide) rfl ?_
  intro p e s m args below meth c s₁ B hml hv
  obtain ⟨rfl, hv⟩ := hv
  have hx := B.exec
  have hb := B.bytes
  have hr := B.returns
  have hts : ∀ w ∈ aw, w.before _ s = true := fun w h => atoms_spec (ws := (.code yC_takeFrom cC_takeFrom 2 none :: aw)) B.pre w (List.mem_cons_of_mem _ h)
  have hown : s.vm.findClass RC = some m.cls := findClass_of_methodNamed B.named
  have hlocks := B.notSynchronized
  obtain ⟨hsz, hP, hK, hD0, hG⟩ := hv
  subst hsz
  have hD := hD0.self (sz := s.heap.size)
  generalize hAe : va_A [(ct, .inr (5, [.ref pc9, .int bi, .ref tg, .ref fx, .int ri])), (pc9, .inl (cP, 8, .inr (.inl fp))), (tg, .inl (cT, 6, .inl ft)), (fx, .inl (cX, 6, .inl ff)), (oc, .inr (5, [.ref op9, .int bo, .ref og, .ref ox, .int ro])), (op9, .inl (dP, 8, .inr (.inl gp))), (og, .inl (dT, 6, .inl gt)), (ox, .inl (dX, 6, .inl gf))] s.heap.size = A at hD ⊢
  have hA : ∀ q : Nat, s.heap.size ≤ q → A q := fun q h => by rw [← hAe]; exact Or.inr h
  obtain ⟨H, hH⟩ : ∃ H, H = s.heap := ⟨_, rfl⟩
  have hS : va_S A s.heap H [] := by rw [hH]; exact va_S.rf
  rw [← hH] at hP ⊢
  have hP : va_P (dC, dI) kCl [(ct, .inr (5, [.ref pc9, .int bi, .ref tg, .ref fx, .int ri])), (pc9, .inl (cP, 8, .inr (.inl fp))), (tg, .inl (cT, 6, .inl ft)), (fx, .inl (cX, 6, .inl ff)), (oc, .inr (5, [.ref op9, .int bo, .ref og, .ref ox, .int ro])), (op9, .inl (dP, 8, .inr (.inl gp))), (og, .inl (dT, 6, .inl gt)), (ox, .inl (dX, 6, .inl gf))] H := hP
  have hl := lv_entry ([.ref ct, .ref oc]) (n := 2) (Nat.le_of_ble_eq_true rfl)
  rw [lg_entry_eq]
  generalize (lg_sl ([.ref ct, .ref oc]) ++ List.replicate (2 - (lg_sl ([.ref ct, .ref oc])).length) Slot.unset).toArray = ls at hl ⊢
  have hl : lv_has ls 2 [(0, .ref ct), (1, .ref oc)] := hl
  refine lv_aload_n (pc := 0) hx hb dC_takeFrom_0 rfl (lv_at hl 1 rfl) ?_
  refine va_get (D := (dC, dI)) (cl := kCl) (C := RC) (T := TC) (N := 5) (pc := 1) hx hb hts inC hown hK hP 4 rfl rfl 0 (by decide) (hts _ wd_47) (fun _ h9 => h9) rfl dC_takeFrom_1 ?_
  refine lv_iconst (pc := 4) (v := 0) hx hb dC_takeFrom_4 (by decide) ?_
  refine lv_aload_n (pc := 5) hx hb dC_takeFrom_5 rfl (lv_at hl 0 rfl) ?_
  refine va_get (D := (dC, dI)) (cl := kCl) (C := RC) (T := TC) (N := 5) (pc := 6) hx hb hts inC hown hK hP 0 rfl rfl 0 (by decide) (hts _ wd_47) (fun _ h9 => h9) rfl dC_takeFrom_6 ?_
  refine lv_iconst (pc := 9) (v := 0) hx hb dC_takeFrom_9 (by decide) ?_
  refine lv_bipush (pc := 10) (v := 8) hx hb dC_takeFrom_10 (by decide) ?_
  refine va_copyl (D := (dC, dI)) (cl := kCl) (pc := 12) hx hb (hml.trans hl.1.symm) hown (hts _ wd_63) (hts _ wd_64) (hts _ wd_65) (hts _ wd_66) hK hP hD hS 5 1 3 0 rfl rfl rfl rfl rfl (by decide) (by decide) (by decide) (by decide) (by decide) (fun i _ => rfl) (Nat.le_of_ble_eq_true rfl) (Nat.le_of_ble_eq_true rfl) dC_takeFrom_12 (fun H locs hP hD hS => ?_)
  have hP : va_P (dC, dI) kCl [(ct, .inr (5, [.ref pc9, .int bi, .ref tg, .ref fx, .int ri])), (pc9, .inl (cP, 8, .inr (.inl (va_cpy gp fp (0 : Int32).toNatClampNeg (0 : Int32).toNatClampNeg (8 : Int32).toNatClampNeg)))), (tg, .inl (cT, 6, .inl ft)), (fx, .inl (cX, 6, .inl ff)), (oc, .inr (5, [.ref op9, .int bo, .ref og, .ref ox, .int ro])), (op9, .inl (dP, 8, .inr (.inl gp))), (og, .inl (dT, 6, .inl gt)), (ox, .inl (dX, 6, .inl gf))] H := hP
  have hD : va_D A [(ct, .inr (5, [.ref pc9, .int bi, .ref tg, .ref fx, .int ri])), (pc9, .inl (cP, 8, .inr (.inl (va_cpy gp fp (0 : Int32).toNatClampNeg (0 : Int32).toNatClampNeg (8 : Int32).toNatClampNeg)))), (tg, .inl (cT, 6, .inl ft)), (fx, .inl (cX, 6, .inl ff)), (oc, .inr (5, [.ref op9, .int bo, .ref og, .ref ox, .int ro])), (op9, .inl (dP, 8, .inr (.inl gp))), (og, .inl (dT, 6, .inl gt)), (ox, .inl (dX, 6, .inl gf))] := hD
  refine lv_aload_n (pc := 15) hx hb dC_takeFrom_15 rfl (lv_at hl 1 rfl) ?_
  refine va_get (D := (dC, dI)) (cl := kCl) (C := RC) (T := TC) (N := 5) (pc := 16) hx hb hts inC hown hK hP 4 rfl rfl 2 (by decide) (hts _ wd_61) (fun _ h9 => h9) rfl dC_takeFrom_16 ?_
  refine lv_iconst (pc := 19) (v := 0) hx hb dC_takeFrom_19 (by decide) ?_
  refine lv_aload_n (pc := 20) hx hb dC_takeFrom_20 rfl (lv_at hl 0 rfl) ?_
  refine va_get (D := (dC, dI)) (cl := kCl) (C := RC) (T := TC) (N := 5) (pc := 21) hx hb hts inC hown hK hP 0 rfl rfl 2 (by decide) (hts _ wd_61) (fun _ h9 => h9) rfl dC_takeFrom_21 ?_
  refine lv_iconst (pc := 24) (v := 0) hx hb dC_takeFrom_24 (by decide) ?_
  refine lv_bipush (pc := 25) (v := 6) hx hb dC_takeFrom_25 (by decide) ?_
  refine va_copyi (D := (dC, dI)) (cl := kCl) (pc := 27) hx hb (hml.trans hl.1.symm) hown (hts _ wd_63) (hts _ wd_64) (hts _ wd_65) (hts _ wd_66) hK hP hD hS 6 2 4 1 rfl rfl rfl rfl rfl (by decide) (by decide) (by decide) (by decide) (by decide) (fun i _ => rfl) (Nat.le_of_ble_eq_true rfl) (Nat.le_of_ble_eq_true rfl) dC_takeFrom_27 (fun H locs hP hD hS => ?_)
  have hP : va_P (dC, dI) kCl [(ct, .inr (5, [.ref pc9, .int bi, .ref tg, .ref fx, .int ri])), (pc9, .inl (cP, 8, .inr (.inl (va_cpy gp fp (0 : Int32).toNatClampNeg (0 : Int32).toNatClampNeg (8 : Int32).toNatClampNeg)))), (tg, .inl (cT, 6, .inl (va_cpy gt ft (0 : Int32).toNatClampNeg (0 : Int32).toNatClampNeg (6 : Int32).toNatClampNeg))), (fx, .inl (cX, 6, .inl ff)), (oc, .inr (5, [.ref op9, .int bo, .ref og, .ref ox, .int ro])), (op9, .inl (dP, 8, .inr (.inl gp))), (og, .inl (dT, 6, .inl gt)), (ox, .inl (dX, 6, .inl gf))] H := hP
  have hD : va_D A [(ct, .inr (5, [.ref pc9, .int bi, .ref tg, .ref fx, .int ri])), (pc9, .inl (cP, 8, .inr (.inl (va_cpy gp fp (0 : Int32).toNatClampNeg (0 : Int32).toNatClampNeg (8 : Int32).toNatClampNeg)))), (tg, .inl (cT, 6, .inl (va_cpy gt ft (0 : Int32).toNatClampNeg (0 : Int32).toNatClampNeg (6 : Int32).toNatClampNeg))), (fx, .inl (cX, 6, .inl ff)), (oc, .inr (5, [.ref op9, .int bo, .ref og, .ref ox, .int ro])), (op9, .inl (dP, 8, .inr (.inl gp))), (og, .inl (dT, 6, .inl gt)), (ox, .inl (dX, 6, .inl gf))] := hD
  refine lv_aload_n (pc := 30) hx hb dC_takeFrom_30 rfl (lv_at hl 1 rfl) ?_
  refine va_get (D := (dC, dI)) (cl := kCl) (C := RC) (T := TC) (N := 5) (pc := 31) hx hb hts inC hown hK hP 4 rfl rfl 3 (by decide) (hts _ wd_62) (fun _ h9 => h9) rfl dC_takeFrom_31 ?_
  refine lv_iconst (pc := 34) (v := 0) hx hb dC_takeFrom_34 (by decide) ?_
  refine lv_aload_n (pc := 35) hx hb dC_takeFrom_35 rfl (lv_at hl 0 rfl) ?_
  refine va_get (D := (dC, dI)) (cl := kCl) (C := RC) (T := TC) (N := 5) (pc := 36) hx hb hts inC hown hK hP 0 rfl rfl 3 (by decide) (hts _ wd_62) (fun _ h9 => h9) rfl dC_takeFrom_36 ?_
  refine lv_iconst (pc := 39) (v := 0) hx hb dC_takeFrom_39 (by decide) ?_
  refine lv_bipush (pc := 40) (v := 6) hx hb dC_takeFrom_40 (by decide) ?_
  refine va_copyi (D := (dC, dI)) (cl := kCl) (pc := 42) hx hb (hml.trans hl.1.symm) hown (hts _ wd_63) (hts _ wd_64) (hts _ wd_65) (hts _ wd_66) hK hP hD hS 7 3 5 2 rfl rfl rfl rfl rfl (by decide) (by decide) (by decide) (by decide) (by decide) (fun i _ => rfl) (Nat.le_of_ble_eq_true rfl) (Nat.le_of_ble_eq_true rfl) dC_takeFrom_42 (fun H locs hP hD hS => ?_)
  have hP : va_P (dC, dI) kCl [(ct, .inr (5, [.ref pc9, .int bi, .ref tg, .ref fx, .int ri])), (pc9, .inl (cP, 8, .inr (.inl (va_cpy gp fp (0 : Int32).toNatClampNeg (0 : Int32).toNatClampNeg (8 : Int32).toNatClampNeg)))), (tg, .inl (cT, 6, .inl (va_cpy gt ft (0 : Int32).toNatClampNeg (0 : Int32).toNatClampNeg (6 : Int32).toNatClampNeg))), (fx, .inl (cX, 6, .inl (va_cpy gf ff (0 : Int32).toNatClampNeg (0 : Int32).toNatClampNeg (6 : Int32).toNatClampNeg))), (oc, .inr (5, [.ref op9, .int bo, .ref og, .ref ox, .int ro])), (op9, .inl (dP, 8, .inr (.inl gp))), (og, .inl (dT, 6, .inl gt)), (ox, .inl (dX, 6, .inl gf))] H := hP
  have hD : va_D A [(ct, .inr (5, [.ref pc9, .int bi, .ref tg, .ref fx, .int ri])), (pc9, .inl (cP, 8, .inr (.inl (va_cpy gp fp (0 : Int32).toNatClampNeg (0 : Int32).toNatClampNeg (8 : Int32).toNatClampNeg)))), (tg, .inl (cT, 6, .inl (va_cpy gt ft (0 : Int32).toNatClampNeg (0 : Int32).toNatClampNeg (6 : Int32).toNatClampNeg))), (fx, .inl (cX, 6, .inl (va_cpy gf ff (0 : Int32).toNatClampNeg (0 : Int32).toNatClampNeg (6 : Int32).toNatClampNeg))), (oc, .inr (5, [.ref op9, .int bo, .ref og, .ref ox, .int ro])), (op9, .inl (dP, 8, .inr (.inl gp))), (og, .inl (dT, 6, .inl gt)), (ox, .inl (dX, 6, .inl gf))] := hD
  refine lv_aload_n (pc := 45) hx hb dC_takeFrom_45 rfl (lv_at hl 0 rfl) ?_
  refine lv_aload_n (pc := 46) hx hb dC_takeFrom_46 rfl (lv_at hl 1 rfl) ?_
  refine va_get (D := (dC, dI)) (cl := kCl) (C := RC) (T := TC) (N := 5) (pc := 47) hx hb hts inC hown hK hP 4 rfl rfl 1 (by decide) (hts _ wd_45) (fun _ h9 => h9) rfl dC_takeFrom_47 ?_
  refine va_put (D := (dC, dI)) (cl := kCl) (ci := 5) (v := .int bo) (ty := .int) (C := RC) (T := TC) (N := 5) (pc := 50) hx hb hts inC tyC tyC_ok nmC hown hK hP hD hS 0 rfl rfl 1 (by decide) (hts _ wd_45) (fun _ h9 => h9) rfl (by decide +kernel) rfl rfl (Nat.le_of_ble_eq_true rfl) dC_takeFrom_50 (fun H locs hP hD hS => ?_)
  have hP : va_P (dC, dI) kCl [(ct, .inr (5, [.ref pc9, .int bo, .ref tg, .ref fx, .int ri])), (pc9, .inl (cP, 8, .inr (.inl (va_cpy gp fp (0 : Int32).toNatClampNeg (0 : Int32).toNatClampNeg (8 : Int32).toNatClampNeg)))), (tg, .inl (cT, 6, .inl (va_cpy gt ft (0 : Int32).toNatClampNeg (0 : Int32).toNatClampNeg (6 : Int32).toNatClampNeg))), (fx, .inl (cX, 6, .inl (va_cpy gf ff (0 : Int32).toNatClampNeg (0 : Int32).toNatClampNeg (6 : Int32).toNatClampNeg))), (oc, .inr (5, [.ref op9, .int bo, .ref og, .ref ox, .int ro])), (op9, .inl (dP, 8, .inr (.inl gp))), (og, .inl (dT, 6, .inl gt)), (ox, .inl (dX, 6, .inl gf))] H := hP
  have hD : va_D A [(ct, .inr (5, [.ref pc9, .int bo, .ref tg, .ref fx, .int ri])), (pc9, .inl (cP, 8, .inr (.inl (va_cpy gp fp (0 : Int32).toNatClampNeg (0 : Int32).toNatClampNeg (8 : Int32).toNatClampNeg)))), (tg, .inl (cT, 6, .inl (va_cpy gt ft (0 : Int32).toNatClampNeg (0 : Int32).toNatClampNeg (6 : Int32).toNatClampNeg))), (fx, .inl (cX, 6, .inl (va_cpy gf ff (0 : Int32).toNatClampNeg (0 : Int32).toNatClampNeg (6 : Int32).toNatClampNeg))), (oc, .inr (5, [.ref op9, .int bo, .ref og, .ref ox, .int ro])), (op9, .inl (dP, 8, .inr (.inl gp))), (og, .inl (dT, 6, .inl gt)), (ox, .inl (dX, 6, .inl gf))] := hD
  refine lv_aload_n (pc := 53) hx hb dC_takeFrom_53 rfl (lv_at hl 0 rfl) ?_
  refine lv_aload_n (pc := 54) hx hb dC_takeFrom_54 rfl (lv_at hl 1 rfl) ?_
  refine va_get (D := (dC, dI)) (cl := kCl) (C := RC) (T := TC) (N := 5) (pc := 55) hx hb hts inC hown hK hP 4 rfl rfl 4 (by decide) (hts _ wd_46) (fun _ h9 => h9) rfl dC_takeFrom_55 ?_
  refine va_put (D := (dC, dI)) (cl := kCl) (ci := 5) (v := .int ro) (ty := .int) (C := RC) (T := TC) (N := 5) (pc := 58) hx hb hts inC tyC tyC_ok nmC hown hK hP hD hS 0 rfl rfl 4 (by decide) (hts _ wd_46) (fun _ h9 => h9) rfl (by decide +kernel) rfl rfl (Nat.le_of_ble_eq_true rfl) dC_takeFrom_58 (fun H locs hP hD hS => ?_)
  have hP : va_P (dC, dI) kCl [(ct, .inr (5, [.ref pc9, .int bo, .ref tg, .ref fx, .int ro])), (pc9, .inl (cP, 8, .inr (.inl (va_cpy gp fp (0 : Int32).toNatClampNeg (0 : Int32).toNatClampNeg (8 : Int32).toNatClampNeg)))), (tg, .inl (cT, 6, .inl (va_cpy gt ft (0 : Int32).toNatClampNeg (0 : Int32).toNatClampNeg (6 : Int32).toNatClampNeg))), (fx, .inl (cX, 6, .inl (va_cpy gf ff (0 : Int32).toNatClampNeg (0 : Int32).toNatClampNeg (6 : Int32).toNatClampNeg))), (oc, .inr (5, [.ref op9, .int bo, .ref og, .ref ox, .int ro])), (op9, .inl (dP, 8, .inr (.inl gp))), (og, .inl (dT, 6, .inl gt)), (ox, .inl (dX, 6, .inl gf))] H := hP
  have hD : va_D A [(ct, .inr (5, [.ref pc9, .int bo, .ref tg, .ref fx, .int ro])), (pc9, .inl (cP, 8, .inr (.inl (va_cpy gp fp (0 : Int32).toNatClampNeg (0 : Int32).toNatClampNeg (8 : Int32).toNatClampNeg)))), (tg, .inl (cT, 6, .inl (va_cpy gt ft (0 : Int32).toNatClampNeg (0 : Int32).toNatClampNeg (6 : Int32).toNatClampNeg))), (fx, .inl (cX, 6, .inl (va_cpy gf ff (0 : Int32).toNatClampNeg (0 : Int32).toNatClampNeg (6 : Int32).toNatClampNeg))), (oc, .inr (5, [.ref op9, .int bo, .ref og, .ref ox, .int ro])), (op9, .inl (dP, 8, .inr (.inl gp))), (og, .inl (dT, 6, .inl gt)), (ox, .inl (dX, 6, .inl gf))] := hD
  have hP9 := hP.sub (ws' := [(ct, .inr (5, [.ref pc9, .int bo, .ref tg, .ref fx, .int ro])), (pc9, .inl (cP, 8, .inr (.inl (va_cpy gp fp (0 : Int32).toNatClampNeg (0 : Int32).toNatClampNeg (8 : Int32).toNatClampNeg)))), (tg, .inl (cT, 6, .inl (va_cpy gt ft (0 : Int32).toNatClampNeg (0 : Int32).toNatClampNeg (6 : Int32).toNatClampNeg))), (fx, .inl (cX, 6, .inl (va_cpy gf ff (0 : Int32).toNatClampNeg (0 : Int32).toNatClampNeg (6 : Int32).toNatClampNeg))), (oc, .inr (5, [.ref op9, .int bo, .ref og, .ref ox, .int ro])), (op9, .inl (dP, 8, .inr (.inl gp))), (og, .inl (dT, 6, .inl gt)), (ox, .inl (dX, 6, .inl gf))]) [0, 1, 2, 3, 4, 5, 6, 7] rfl
  have hD9 := hD.sub (ws' := [(ct, .inr (5, [.ref pc9, .int bo, .ref tg, .ref fx, .int ro])), (pc9, .inl (cP, 8, .inr (.inl (va_cpy gp fp (0 : Int32).toNatClampNeg (0 : Int32).toNatClampNeg (8 : Int32).toNatClampNeg)))), (tg, .inl (cT, 6, .inl (va_cpy gt ft (0 : Int32).toNatClampNeg (0 : Int32).toNatClampNeg (6 : Int32).toNatClampNeg))), (fx, .inl (cX, 6, .inl (va_cpy gf ff (0 : Int32).toNatClampNeg (0 : Int32).toNatClampNeg (6 : Int32).toNatClampNeg))), (oc, .inr (5, [.ref op9, .int bo, .ref og, .ref ox, .int ro])), (op9, .inl (dP, 8, .inr (.inl gp))), (og, .inl (dT, 6, .inl gt)), (ox, .inl (dX, 6, .inl gf))]) [0, 1, 2, 3, 4, 5, 6, 7] (by decide) rfl
  have hK9 := hK.sub (tys' := [(cP, .long), (cT, .int), (cX, .int), (dP, .long), (dT, .int), (dX, .int)]) [0, 1, 2, 3, 4, 5] rfl
  exact W.vret (pc := 61) hx hb hr (fun t ht hW => ⟨⟨(), rfl, trivial, by rw [ht]; exact hP9, va_K.moved hW.alike hK9, hD9⟩, hS.F ht⟩) hS.2.2 dC_takeFrom_61
set_option maxHeartbeats 4000000 in
set_option maxRecDepth 100000 in
theorem c_init (l : Launch) (dC : Nat → ClassId) (dI : Nat → Nat → Nat) (sz : Nat) (ct : Nat) : Met l yC_init (.code yC_init cC_init 1 none :: aw) ({ frames := 1, cells := 3, slots := 20, locals := 12 }) (pW (dC, dI) sz [(ct, .inr (5, [.null, .int 0, .null, .null, .int 0]))] [] [.ref ct]) (va_Qv (fun (_ : Unit) => True) (fun _ t => ∃ (pc9 : Nat) (tg : Nat) (fx : Nat) (cP : ClassId) (cT : ClassId) (cX : ClassId), wW (dC, dI) (va_A [(ct, .inr (5, [.null, .int 0, .null, .null, .int 0]))] sz) [(ct, .inr (5, [.ref pc9, .int 0, .ref tg, .ref fx, .int 0])), (pc9, .inl (cP, 8, .inr (.inl (fun _ => 0)))), (tg, .inl (cT, 6, .inl (fun _ => 0))), (fx, .inl (cX, 6, .inl (fun _ => 0)))] [(cP, .long), (cT, .int), (cX, .int)] t) (va_A [(ct, .inr (5, [.null, .int 0, .null, .null, .int 0]))] sz)) 3 20 (va_A [(ct, .inr (5, [.null, .int 0, .null, .null, .int 0]))] sz) := by
  refine Met.ofW (cc := cC_init) (maxL := 1) (ret := none) (by decide) rfl ?_
  intro p e s m args below meth c s₁ B hml hv
  obtain ⟨rfl, hv⟩ := hv
  have hx := B.exec
  have hb := B.bytes
  have hr := B.returns
  have hts : ∀ w ∈ aw, w.before _ s = true := fun w h => atoms_spec (ws := (.code yC_init cC_init 1 none :: aw)) B.pre w (List.mem_cons_of_mem _ h)
  have hown : s.vm.findClass RC = some m.cls := findClass_of_methodNamed B.named
  have hlocks := B.notSynchronized
  have hin : meth.name = "<init>" := (name_of_methodNamed B.named B.method).1
  obtain ⟨hsz, hP, hK, hD0, hG⟩ := hv
  subst hsz
  have hD := hD0.self (sz := s.heap.size)
  generalize hAe : va_A [(ct, .inr (5, [.null, .int 0, .null, .null, .int 0]))] s.heap.size = A at hD ⊢
  have hA : ∀ q : Nat, s.heap.size ≤ q → A q := fun q h => by rw [← hAe]; exact Or.inr h
  obtain ⟨H, hH⟩ : ∃ H, H = s.heap := ⟨_, rfl⟩
  have hS : va_S A s.heap H [] := by rw [hH]; exact va_S.rf
  rw [← hH] at hP ⊢
  have hP : va_P (dC, dI) kCl [(ct, .inr (5, [.null, .int 0, .null, .null, .int 0]))] H := hP
  have hl := lv_entry ([.ref ct]) (n := 1) (Nat.le_of_ble_eq_true rfl)
  rw [lg_entry_eq]
  generalize (lg_sl ([.ref ct]) ++ List.replicate (1 - (lg_sl ([.ref ct])).length) Slot.unset).toArray = ls at hl ⊢
  have hl : lv_has ls 1 [(0, .ref ct)] := hl
  refine lv_aload_n (pc := 0) hx hb dC_init_0 rfl (lv_at hl 0 rfl) ?_
  refine W.objInit hx hb hown (hts _ wd_67) (hts _ wd_68) (hts _ wd_69) rfl (by rw [hml]; exact hl.1) rfl dC_init_1 (Nat.le_of_ble_eq_true rfl) (Nat.le_of_ble_eq_true rfl) ?_
  refine W.eq (g2 := F0 m 4 ls []) rfl ?_
  refine lv_aload_n (pc := 4) hx hb dC_init_4 rfl (lv_at hl 0 rfl) ?_
  refine lv_bipush (pc := 5) (v := 8) hx hb dC_init_5 (by decide) ?_
  refine va_newa (atype := .long) (D := (dC, dI)) (cl := kCl) (pc := 7) (ty := .long) (n := 8) (N' := 8) (a0 := (8, .inr (.inl (fun _ => 0)))) hx hb (hts _ wd_70) rfl hK hP hD hS hA (fun cA => rfl) (by decide) (by decide) (by decide) (Nat.le_of_ble_eq_true rfl) (Nat.le_of_ble_eq_true rfl) dC_init_7 (fun q1 cA2 H hK hP hD hS => ?_)
  have hP : va_P (dC, dI) kCl [(ct, .inr (5, [.null, .int 0, .null, .null, .int 0])), (q1, .inl (cA2, 8, .inr (.inl (fun _ => 0))))] H := hP
  have hD : va_D A [(ct, .inr (5, [.null, .int 0, .null, .null, .int 0])), (q1, .inl (cA2, 8, .inr (.inl (fun _ => 0))))] := hD
  have hK : va_K (dC, dI) kCl [(cA2, .long)] s := hK
  refine W.widen (k := 1) (n := 8) (Nat.le_of_ble_eq_true rfl) (Nat.le_of_ble_eq_true rfl) ?_
  refine va_putF (D := (dC, dI)) (cl := kCl) (ci := 5) (v := .ref q1) (ty := (.array .long)) (C := RC) (T := TC) (N := 5) (pc := 9) hx hb hts inC tyC tyC_ok nmC hown hK hP hD hS 0 rfl rfl 0 (by decide) (hts _ wd_47) (fun _ h9 => h9) rfl hin rfl (by decide +kernel) rfl rfl (Nat.le_of_ble_eq_true rfl) dC_init_9 (fun H locs hP hD hS => ?_)
  have hP : va_P (dC, dI) kCl [(ct, .inr (5, [.ref q1, .int 0, .null, .null, .int 0])), (q1, .inl (cA2, 8, .inr (.inl (fun _ => 0))))] H := hP
  have hD : va_D A [(ct, .inr (5, [.ref q1, .int 0, .null, .null, .int 0])), (q1, .inl (cA2, 8, .inr (.inl (fun _ => 0))))] := hD
  refine lv_aload_n (pc := 12) hx hb dC_init_12 rfl (lv_at hl 0 rfl) ?_
  refine lv_bipush (pc := 13) (v := 6) hx hb dC_init_13 (by decide) ?_
  refine va_newa (atype := .int) (D := (dC, dI)) (cl := kCl) (pc := 15) (ty := .int) (n := 6) (N' := 6) (a0 := (6, .inl (fun _ => 0))) hx hb (hts _ wd_71) rfl hK hP hD hS hA (fun cA => rfl) (by decide) (by decide) (by decide) (Nat.le_of_ble_eq_true rfl) (Nat.le_of_ble_eq_true rfl) dC_init_15 (fun q3 cA4 H hK hP hD hS => ?_)
  have hP : va_P (dC, dI) kCl [(ct, .inr (5, [.ref q1, .int 0, .null, .null, .int 0])), (q1, .inl (cA2, 8, .inr (.inl (fun _ => 0)))), (q3, .inl (cA4, 6, .inl (fun _ => 0)))] H := hP
  have hD : va_D A [(ct, .inr (5, [.ref q1, .int 0, .null, .null, .int 0])), (q1, .inl (cA2, 8, .inr (.inl (fun _ => 0)))), (q3, .inl (cA4, 6, .inl (fun _ => 0)))] := hD
  have hK : va_K (dC, dI) kCl [(cA2, .long), (cA4, .int)] s := hK
  refine W.widen (k := 2) (n := 14) (Nat.le_of_ble_eq_true rfl) (Nat.le_of_ble_eq_true rfl) ?_
  refine va_putF (D := (dC, dI)) (cl := kCl) (ci := 5) (v := .ref q3) (ty := (.array .int)) (C := RC) (T := TC) (N := 5) (pc := 17) hx hb hts inC tyC tyC_ok nmC hown hK hP hD hS 0 rfl rfl 2 (by decide) (hts _ wd_61) (fun _ h9 => h9) rfl hin rfl (by decide +kernel) rfl rfl (Nat.le_of_ble_eq_true rfl) dC_init_17 (fun H locs hP hD hS => ?_)
  have hP : va_P (dC, dI) kCl [(ct, .inr (5, [.ref q1, .int 0, .ref q3, .null, .int 0])), (q1, .inl (cA2, 8, .inr (.inl (fun _ => 0)))), (q3, .inl (cA4, 6, .inl (fun _ => 0)))] H := hP
  have hD : va_D A [(ct, .inr (5, [.ref q1, .int 0, .ref q3, .null, .int 0])), (q1, .inl (cA2, 8, .inr (.inl (fun _ => 0)))), (q3, .inl (cA4, 6, .inl (fun _ => 0)))] := hD
  refine lv_aload_n (pc := 20) hx hb dC_init_20 rfl (lv_at hl 0 rfl) ?_
  refine lv_bipush (pc := 21) (v := 6) hx hb dC_init_21 (by decide) ?_
  refine va_newa (atype := .int) (D := (dC, dI)) (cl := kCl) (pc := 23) (ty := .int) (n := 6) (N' := 6) (a0 := (6, .inl (fun _ => 0))) hx hb (hts _ wd_71) rfl hK hP hD hS hA (fun cA => rfl) (by decide) (by decide) (by decide) (Nat.le_of_ble_eq_true rfl) (Nat.le_of_ble_eq_true rfl) dC_init_23 (fun q5 cA6 H hK hP hD hS => ?_)
  have hP : va_P (dC, dI) kCl [(ct, .inr (5, [.ref q1, .int 0, .ref q3, .null, .int 0])), (q1, .inl (cA2, 8, .inr (.inl (fun _ => 0)))), (q3, .inl (cA4, 6, .inl (fun _ => 0))), (q5, .inl (cA6, 6, .inl (fun _ => 0)))] H := hP
  have hD : va_D A [(ct, .inr (5, [.ref q1, .int 0, .ref q3, .null, .int 0])), (q1, .inl (cA2, 8, .inr (.inl (fun _ => 0)))), (q3, .inl (cA4, 6, .inl (fun _ => 0))), (q5, .inl (cA6, 6, .inl (fun _ => 0)))] := hD
  have hK : va_K (dC, dI) kCl [(cA2, .long), (cA4, .int), (cA6, .int)] s := hK
  refine W.widen (k := 3) (n := 20) (Nat.le_of_ble_eq_true rfl) (Nat.le_of_ble_eq_true rfl) ?_
  refine va_putF (D := (dC, dI)) (cl := kCl) (ci := 5) (v := .ref q5) (ty := (.array .int)) (C := RC) (T := TC) (N := 5) (pc := 25) hx hb hts inC tyC tyC_ok nmC hown hK hP hD hS 0 rfl rfl 3 (by decide) (hts _ wd_62) (fun _ h9 => h9) rfl hin rfl (by decide +kernel) rfl rfl (Nat.le_of_ble_eq_true rfl) dC_init_25 (fun H locs hP hD hS => ?_)
  have hP : va_P (dC, dI) kCl [(ct, .inr (5, [.ref q1, .int 0, .ref q3, .ref q5, .int 0])), (q1, .inl (cA2, 8, .inr (.inl (fun _ => 0)))), (q3, .inl (cA4, 6, .inl (fun _ => 0))), (q5, .inl (cA6, 6, .inl (fun _ => 0)))] H := hP
  have hD : va_D A [(ct, .inr (5, [.ref q1, .int 0, .ref q3, .ref q5, .int 0])), (q1, .inl (cA2, 8, .inr (.inl (fun _ => 0)))), (q3, .inl (cA4, 6, .inl (fun _ => 0))), (q5, .inl (cA6, 6, .inl (fun _ => 0)))] := hD
  have hP9 := hP.sub (ws' := [(ct, .inr (5, [.ref q1, .int 0, .ref q3, .ref q5, .int 0])), (q1, .inl (cA2, 8, .inr (.inl (fun _ => 0)))), (q3, .inl (cA4, 6, .inl (fun _ => 0))), (q5, .inl (cA6, 6, .inl (fun _ => 0)))]) [0, 1, 2, 3] rfl
  have hD9 := hD.sub (ws' := [(ct, .inr (5, [.ref q1, .int 0, .ref q3, .ref q5, .int 0])), (q1, .inl (cA2, 8, .inr (.inl (fun _ => 0)))), (q3, .inl (cA4, 6, .inl (fun _ => 0))), (q5, .inl (cA6, 6, .inl (fun _ => 0)))]) [0, 1, 2, 3] (by decide) rfl
  have hK9 := hK.sub (tys' := [(cA2, .long), (cA4, .int), (cA6, .int)]) [0, 1, 2] rfl
  exact W.vret (pc := 28) hx hb hr (fun t ht hW => ⟨⟨(), rfl, trivial, q1, q3, q5, cA2, cA4, cA6, by rw [ht]; exact hP9, va_K.moved hW.alike hK9, hD9⟩, hS.F ht⟩) hS.2.2 dC_init_28
