abbrev cC_hasByte : ByteArray := prog_4_method_4_code
abbrev yC_hasByte : MethodName := ⟨"DrawingVault$Content", "hasByte", "(I)Z"⟩
theorem dC_hasByte_0 : decode cC_hasByte 0 = .ok (.iload_n 1, 1) := by decide +kernel
theorem dC_hasByte_1 : decode cC_hasByte 1 = .ok (.ifCond .lt 15, 3) := by decide +kernel
theorem dC_hasByte_4 : decode cC_hasByte 4 = .ok (.iload_n 1, 1) := by decide +kernel
theorem dC_hasByte_5 : decode cC_hasByte 5 = .ok (.aload_n 0, 1) := by decide +kernel
theorem dC_hasByte_6 : decode cC_hasByte 6 = .ok (.getfield 28, 3) := by decide +kernel
theorem dC_hasByte_9 : decode cC_hasByte 9 = .ok (.if_icmp .ge 7, 3) := by decide +kernel
theorem dC_hasByte_12 : decode cC_hasByte 12 = .ok (.iconst 1, 1) := by decide +kernel
theorem dC_hasByte_13 : decode cC_hasByte 13 = .ok (.goto 4, 3) := by decide +kernel
theorem dC_hasByte_16 : decode cC_hasByte 16 = .ok (.iconst 0, 1) := by decide +kernel
theorem dC_hasByte_17 : decode cC_hasByte 17 = .ok (.ireturn, 1) := by decide +kernel
abbrev cC_shiftOf : ByteArray := prog_4_method_16_code
abbrev yC_shiftOf : MethodName := ⟨"DrawingVault$Content", "shiftOf", "(I)I"⟩
theorem dC_shiftOf_0 : decode cC_shiftOf 0 = .ok (.iload_n 0, 1) := by decide +kernel
theorem dC_shiftOf_1 : decode cC_shiftOf 1 = .ok (.bipush 8, 2) := by decide +kernel
theorem dC_shiftOf_3 : decode cC_shiftOf 3 = .ok (.irem, 1) := by decide +kernel
theorem dC_shiftOf_4 : decode cC_shiftOf 4 = .ok (.bipush 8, 2) := by decide +kernel
theorem dC_shiftOf_6 : decode cC_shiftOf 6 = .ok (.imul, 1) := by decide +kernel
theorem dC_shiftOf_7 : decode cC_shiftOf 7 = .ok (.ireturn, 1) := by decide +kernel
abbrev cC_byteAt : ByteArray := prog_4_method_5_code
abbrev yC_byteAt : MethodName := ⟨"DrawingVault$Content", "byteAt", "(I)I"⟩
theorem dC_byteAt_0 : decode cC_byteAt 0 = .ok (.aload_n 0, 1) := by decide +kernel
theorem dC_byteAt_1 : decode cC_byteAt 1 = .ok (.getfield 9, 3) := by decide +kernel
theorem dC_byteAt_4 : decode cC_byteAt 4 = .ok (.iload_n 1, 1) := by decide +kernel
theorem dC_byteAt_5 : decode cC_byteAt 5 = .ok (.bipush 8, 2) := by decide +kernel
theorem dC_byteAt_7 : decode cC_byteAt 7 = .ok (.idiv, 1) := by decide +kernel
theorem dC_byteAt_8 : decode cC_byteAt 8 = .ok (.laload, 1) := by decide +kernel
theorem dC_byteAt_9 : decode cC_byteAt 9 = .ok (.iload_n 1, 1) := by decide +kernel
theorem dC_byteAt_10 : decode cC_byteAt 10 = .ok (.invokestatic 41, 3) := by decide +kernel
theorem dC_byteAt_13 : decode cC_byteAt 13 = .ok (.lushr, 1) := by decide +kernel
theorem dC_byteAt_14 : decode cC_byteAt 14 = .ok (.l2i, 1) := by decide +kernel
theorem dC_byteAt_15 : decode cC_byteAt 15 = .ok (.sipush 255, 3) := by decide +kernel
theorem dC_byteAt_18 : decode cC_byteAt 18 = .ok (.iand, 1) := by decide +kernel
theorem dC_byteAt_19 : decode cC_byteAt 19 = .ok (.ireturn, 1) := by decide +kernel
abbrev cC_setByte : ByteArray := prog_4_method_6_code
abbrev yC_setByte : MethodName := ⟨"DrawingVault$Content", "setByte", "(II)V"⟩
theorem dC_setByte_0 : decode cC_setByte 0 = .ok (.aload_n 0, 1) := by decide +kernel
theorem dC_setByte_1 : decode cC_setByte 1 = .ok (.getfield 9, 3) := by decide +kernel
theorem dC_setByte_4 : decode cC_setByte 4 = .ok (.iload_n 1, 1) := by decide +kernel
theorem dC_setByte_5 : decode cC_setByte 5 = .ok (.bipush 8, 2) := by decide +kernel
theorem dC_setByte_7 : decode cC_setByte 7 = .ok (.idiv, 1) := by decide +kernel
theorem dC_setByte_8 : decode cC_setByte 8 = .ok (.laload, 1) := by decide +kernel
theorem dC_setByte_9 : decode cC_setByte 9 = .ok (.ldc2_w 45, 3) := by decide +kernel
theorem dC_setByte_12 : decode cC_setByte 12 = .ok (.iload_n 1, 1) := by decide +kernel
theorem dC_setByte_13 : decode cC_setByte 13 = .ok (.invokestatic 41, 3) := by decide +kernel
theorem dC_setByte_16 : decode cC_setByte 16 = .ok (.lshl, 1) := by decide +kernel
theorem dC_setByte_17 : decode cC_setByte 17 = .ok (.ldc2_w 47, 3) := by decide +kernel
theorem dC_setByte_20 : decode cC_setByte 20 = .ok (.lxor, 1) := by decide +kernel
theorem dC_setByte_21 : decode cC_setByte 21 = .ok (.land, 1) := by decide +kernel
theorem dC_setByte_22 : decode cC_setByte 22 = .ok (.lstore_n 3, 1) := by decide +kernel
theorem dC_setByte_23 : decode cC_setByte 23 = .ok (.aload_n 0, 1) := by decide +kernel
theorem dC_setByte_24 : decode cC_setByte 24 = .ok (.getfield 9, 3) := by decide +kernel
theorem dC_setByte_27 : decode cC_setByte 27 = .ok (.iload_n 1, 1) := by decide +kernel
theorem dC_setByte_28 : decode cC_setByte 28 = .ok (.bipush 8, 2) := by decide +kernel
theorem dC_setByte_30 : decode cC_setByte 30 = .ok (.idiv, 1) := by decide +kernel
theorem dC_setByte_31 : decode cC_setByte 31 = .ok (.lload_n 3, 1) := by decide +kernel
theorem dC_setByte_32 : decode cC_setByte 32 = .ok (.iload_n 2, 1) := by decide +kernel
theorem dC_setByte_33 : decode cC_setByte 33 = .ok (.i2l, 1) := by decide +kernel
theorem dC_setByte_34 : decode cC_setByte 34 = .ok (.iload_n 1, 1) := by decide +kernel
theorem dC_setByte_35 : decode cC_setByte 35 = .ok (.invokestatic 41, 3) := by decide +kernel
theorem dC_setByte_38 : decode cC_setByte 38 = .ok (.lshl, 1) := by decide +kernel
theorem dC_setByte_39 : decode cC_setByte 39 = .ok (.lor, 1) := by decide +kernel
theorem dC_setByte_40 : decode cC_setByte 40 = .ok (.lastore, 1) := by decide +kernel
theorem dC_setByte_41 : decode cC_setByte 41 = .ok (.return_, 1) := by decide +kernel
abbrev cC_setBytes : ByteArray := prog_4_method_7_code
abbrev yC_setBytes : MethodName := ⟨"DrawingVault$Content", "setBytes", "(I)V"⟩
theorem dC_setBytes_0 : decode cC_setBytes 0 = .ok (.iload_n 1, 1) := by decide +kernel
theorem dC_setBytes_1 : decode cC_setBytes 1 = .ok (.istore_n 2, 1) := by decide +kernel
theorem dC_setBytes_2 : decode cC_setBytes 2 = .ok (.iload_n 2, 1) := by decide +kernel
theorem dC_setBytes_3 : decode cC_setBytes 3 = .ok (.aload_n 0, 1) := by decide +kernel
theorem dC_setBytes_4 : decode cC_setBytes 4 = .ok (.getfield 28, 3) := by decide +kernel
theorem dC_setBytes_7 : decode cC_setBytes 7 = .ok (.if_icmp .ge 15, 3) := by decide +kernel
theorem dC_setBytes_10 : decode cC_setBytes 10 = .ok (.aload_n 0, 1) := by decide +kernel
theorem dC_setBytes_11 : decode cC_setBytes 11 = .ok (.iload_n 2, 1) := by decide +kernel
theorem dC_setBytes_12 : decode cC_setBytes 12 = .ok (.iconst 0, 1) := by decide +kernel
theorem dC_setBytes_13 : decode cC_setBytes 13 = .ok (.invokevirtual 49, 3) := by decide +kernel
theorem dC_setBytes_16 : decode cC_setBytes 16 = .ok (.iinc 2 1, 3) := by decide +kernel
theorem dC_setBytes_19 : decode cC_setBytes 19 = .ok (.goto (-17), 3) := by decide +kernel
theorem dC_setBytes_22 : decode cC_setBytes 22 = .ok (.aload_n 0, 1) := by decide +kernel
theorem dC_setBytes_23 : decode cC_setBytes 23 = .ok (.iload_n 1, 1) := by decide +kernel
theorem dC_setBytes_24 : decode cC_setBytes 24 = .ok (.putfield 28, 3) := by decide +kernel
theorem dC_setBytes_27 : decode cC_setBytes 27 = .ok (.return_, 1) := by decide +kernel
abbrev cC_pieceCount : ByteArray := prog_4_method_8_code
abbrev yC_pieceCount : MethodName := ⟨"DrawingVault$Content", "pieceCount", "()I"⟩
theorem dC_pieceCount_0 : decode cC_pieceCount 0 = .ok (.aload_n 0, 1) := by decide +kernel
theorem dC_pieceCount_1 : decode cC_pieceCount 1 = .ok (.getfield 28, 3) := by decide +kernel
theorem dC_pieceCount_4 : decode cC_pieceCount 4 = .ok (.bipush 8, 2) := by decide +kernel
theorem dC_pieceCount_6 : decode cC_pieceCount 6 = .ok (.iadd, 1) := by decide +kernel
theorem dC_pieceCount_7 : decode cC_pieceCount 7 = .ok (.iconst 1, 1) := by decide +kernel
theorem dC_pieceCount_8 : decode cC_pieceCount 8 = .ok (.isub, 1) := by decide +kernel
theorem dC_pieceCount_9 : decode cC_pieceCount 9 = .ok (.bipush 8, 2) := by decide +kernel
theorem dC_pieceCount_11 : decode cC_pieceCount 11 = .ok (.idiv, 1) := by decide +kernel
theorem dC_pieceCount_12 : decode cC_pieceCount 12 = .ok (.ireturn, 1) := by decide +kernel
abbrev cC_pieceLength : ByteArray := prog_4_method_9_code
abbrev yC_pieceLength : MethodName := ⟨"DrawingVault$Content", "pieceLength", "(I)I"⟩
theorem dC_pieceLength_0 : decode cC_pieceLength 0 = .ok (.iconst 0, 1) := by decide +kernel
theorem dC_pieceLength_1 : decode cC_pieceLength 1 = .ok (.bipush 8, 2) := by decide +kernel
theorem dC_pieceLength_3 : decode cC_pieceLength 3 = .ok (.aload_n 0, 1) := by decide +kernel
theorem dC_pieceLength_4 : decode cC_pieceLength 4 = .ok (.getfield 28, 3) := by decide +kernel
theorem dC_pieceLength_7 : decode cC_pieceLength 7 = .ok (.iload_n 1, 1) := by decide +kernel
theorem dC_pieceLength_8 : decode cC_pieceLength 8 = .ok (.bipush 8, 2) := by decide +kernel
theorem dC_pieceLength_10 : decode cC_pieceLength 10 = .ok (.imul, 1) := by decide +kernel
theorem dC_pieceLength_11 : decode cC_pieceLength 11 = .ok (.isub, 1) := by decide +kernel
theorem dC_pieceLength_12 : decode cC_pieceLength 12 = .ok (.invokestatic 53, 3) := by decide +kernel
theorem dC_pieceLength_15 : decode cC_pieceLength 15 = .ok (.invokestatic 59, 3) := by decide +kernel
theorem dC_pieceLength_18 : decode cC_pieceLength 18 = .ok (.ireturn, 1) := by decide +kernel
abbrev cC_samePiece : ByteArray := prog_4_method_10_code
abbrev yC_samePiece : MethodName := ⟨"DrawingVault$Content", "samePiece", "(LDrawingVault$Content;I)Z"⟩
theorem dC_samePiece_0 : decode cC_samePiece 0 = .ok (.aload_n 0, 1) := by decide +kernel
theorem dC_samePiece_1 : decode cC_samePiece 1 = .ok (.iload_n 2, 1) := by decide +kernel
theorem dC_samePiece_2 : decode cC_samePiece 2 = .ok (.invokevirtual 62, 3) := by decide +kernel
theorem dC_samePiece_5 : decode cC_samePiece 5 = .ok (.aload_n 1, 1) := by decide +kernel
theorem dC_samePiece_6 : decode cC_samePiece 6 = .ok (.iload_n 2, 1) := by decide +kernel
theorem dC_samePiece_7 : decode cC_samePiece 7 = .ok (.invokevirtual 62, 3) := by decide +kernel
theorem dC_samePiece_10 : decode cC_samePiece 10 = .ok (.if_icmp .ne 23, 3) := by decide +kernel
theorem dC_samePiece_13 : decode cC_samePiece 13 = .ok (.aload_n 0, 1) := by decide +kernel
theorem dC_samePiece_14 : decode cC_samePiece 14 = .ok (.getfield 9, 3) := by decide +kernel
theorem dC_samePiece_17 : decode cC_samePiece 17 = .ok (.iload_n 2, 1) := by decide +kernel
theorem dC_samePiece_18 : decode cC_samePiece 18 = .ok (.laload, 1) := by decide +kernel
theorem dC_samePiece_19 : decode cC_samePiece 19 = .ok (.aload_n 1, 1) := by decide +kernel
theorem dC_samePiece_20 : decode cC_samePiece 20 = .ok (.getfield 9, 3) := by decide +kernel
theorem dC_samePiece_23 : decode cC_samePiece 23 = .ok (.iload_n 2, 1) := by decide +kernel
theorem dC_samePiece_24 : decode cC_samePiece 24 = .ok (.laload, 1) := by decide +kernel
theorem dC_samePiece_25 : decode cC_samePiece 25 = .ok (.lcmp, 1) := by decide +kernel
theorem dC_samePiece_26 : decode cC_samePiece 26 = .ok (.ifCond .ne 7, 3) := by decide +kernel
theorem dC_samePiece_29 : decode cC_samePiece 29 = .ok (.iconst 1, 1) := by decide +kernel
theorem dC_samePiece_30 : decode cC_samePiece 30 = .ok (.goto 4, 3) := by decide +kernel
theorem dC_samePiece_33 : decode cC_samePiece 33 = .ok (.iconst 0, 1) := by decide +kernel
theorem dC_samePiece_34 : decode cC_samePiece 34 = .ok (.ireturn, 1) := by decide +kernel
abbrev cC_hasReference : ByteArray := prog_4_method_11_code
abbrev yC_hasReference : MethodName := ⟨"DrawingVault$Content", "hasReference", "(I)Z"⟩
theorem dC_hasReference_0 : decode cC_hasReference 0 = .ok (.iload_n 1, 1) := by decide +kernel
theorem dC_hasReference_1 : decode cC_hasReference 1 = .ok (.ifCond .lt 15, 3) := by decide +kernel
theorem dC_hasReference_4 : decode cC_hasReference 4 = .ok (.iload_n 1, 1) := by decide +kernel
theorem dC_hasReference_5 : decode cC_hasReference 5 = .ok (.aload_n 0, 1) := by decide +kernel
theorem dC_hasReference_6 : decode cC_hasReference 6 = .ok (.getfield 32, 3) := by decide +kernel
theorem dC_hasReference_9 : decode cC_hasReference 9 = .ok (.if_icmp .ge 7, 3) := by decide +kernel
theorem dC_hasReference_12 : decode cC_hasReference 12 = .ok (.iconst 1, 1) := by decide +kernel
theorem dC_hasReference_13 : decode cC_hasReference 13 = .ok (.goto 4, 3) := by decide +kernel
theorem dC_hasReference_16 : decode cC_hasReference 16 = .ok (.iconst 0, 1) := by decide +kernel
theorem dC_hasReference_17 : decode cC_hasReference 17 = .ok (.ireturn, 1) := by decide +kernel
abbrev cC_setReference : ByteArray := prog_4_method_12_code
abbrev yC_setReference : MethodName := ⟨"DrawingVault$Content", "setReference", "(III)V"⟩
theorem dC_setReference_0 : decode cC_setReference 0 = .ok (.aload_n 0, 1) := by decide +kernel
theorem dC_setReference_1 : decode cC_setReference 1 = .ok (.getfield 15, 3) := by decide +kernel
theorem dC_setReference_4 : decode cC_setReference 4 = .ok (.iload_n 1, 1) := by decide +kernel
theorem dC_setReference_5 : decode cC_setReference 5 = .ok (.iload_n 2, 1) := by decide +kernel
theorem dC_setReference_6 : decode cC_setReference 6 = .ok (.iastore, 1) := by decide +kernel
theorem dC_setReference_7 : decode cC_setReference 7 = .ok (.aload_n 0, 1) := by decide +kernel
theorem dC_setReference_8 : decode cC_setReference 8 = .ok (.getfield 19, 3) := by decide +kernel
theorem dC_setReference_11 : decode cC_setReference 11 = .ok (.iload_n 1, 1) := by decide +kernel
theorem dC_setReference_12 : decode cC_setReference 12 = .ok (.iload_n 3, 1) := by decide +kernel
theorem dC_setReference_13 : decode cC_setReference 13 = .ok (.iastore, 1) := by decide +kernel
theorem dC_setReference_14 : decode cC_setReference 14 = .ok (.aload_n 0, 1) := by decide +kernel
theorem dC_setReference_15 : decode cC_setReference 15 = .ok (.aload_n 0, 1) := by decide +kernel
theorem dC_setReference_16 : decode cC_setReference 16 = .ok (.getfield 32, 3) := by decide +kernel
theorem dC_setReference_19 : decode cC_setReference 19 = .ok (.iload_n 1, 1) := by decide +kernel
theorem dC_setReference_20 : decode cC_setReference 20 = .ok (.iconst 1, 1) := by decide +kernel
theorem dC_setReference_21 : decode cC_setReference 21 = .ok (.iadd, 1) := by decide +kernel
theorem dC_setReference_22 : decode cC_setReference 22 = .ok (.invokestatic 59, 3) := by decide +kernel
theorem dC_setReference_25 : decode cC_setReference 25 = .ok (.putfield 32, 3) := by decide +kernel
theorem dC_setReference_28 : decode cC_setReference 28 = .ok (.return_, 1) := by decide +kernel
abbrev cC_removeReference : ByteArray := prog_4_method_13_code
abbrev yC_removeReference : MethodName := ⟨"DrawingVault$Content", "removeReference", "(I)V"⟩
theorem dC_removeReference_0 : decode cC_removeReference 0 = .ok (.aload_n 0, 1) := by decide +kernel
theorem dC_removeReference_1 : decode cC_removeReference 1 = .ok (.dup, 1) := by decide +kernel
theorem dC_removeReference_2 : decode cC_removeReference 2 = .ok (.getfield 32, 3) := by decide +kernel
theorem dC_removeReference_5 : decode cC_removeReference 5 = .ok (.iconst 1, 1) := by decide +kernel
theorem dC_removeReference_6 : decode cC_removeReference 6 = .ok (.isub, 1) := by decide +kernel
theorem dC_removeReference_7 : decode cC_removeReference 7 = .ok (.putfield 32, 3) := by decide +kernel
theorem dC_removeReference_10 : decode cC_removeReference 10 = .ok (.iload_n 1, 1) := by decide +kernel
theorem dC_removeReference_11 : decode cC_removeReference 11 = .ok (.istore_n 2, 1) := by decide +kernel
theorem dC_removeReference_12 : decode cC_removeReference 12 = .ok (.iload_n 2, 1) := by decide +kernel
theorem dC_removeReference_13 : decode cC_removeReference 13 = .ok (.aload_n 0, 1) := by decide +kernel
theorem dC_removeReference_14 : decode cC_removeReference 14 = .ok (.getfield 32, 3) := by decide +kernel
theorem dC_removeReference_17 : decode cC_removeReference 17 = .ok (.if_icmp .ge 37, 3) := by decide +kernel
theorem dC_removeReference_20 : decode cC_removeReference 20 = .ok (.aload_n 0, 1) := by decide +kernel
theorem dC_removeReference_21 : decode cC_removeReference 21 = .ok (.getfield 15, 3) := by decide +kernel
theorem dC_removeReference_24 : decode cC_removeReference 24 = .ok (.iload_n 2, 1) := by decide +kernel
theorem dC_removeReference_25 : decode cC_removeReference 25 = .ok (.aload_n 0, 1) := by decide +kernel
theorem dC_removeReference_26 : decode cC_removeReference 26 = .ok (.getfield 15, 3) := by decide +kernel
theorem dC_removeReference_29 : decode cC_removeReference 29 = .ok (.iload_n 2, 1) := by decide +kernel
theorem dC_removeReference_30 : decode cC_removeReference 30 = .ok (.iconst 1, 1) := by decide +kernel
theorem dC_removeReference_31 : decode cC_removeReference 31 = .ok (.iadd, 1) := by decide +kernel
theorem dC_removeReference_32 : decode cC_removeReference 32 = .ok (.iaload, 1) := by decide +kernel
theorem dC_removeReference_33 : decode cC_removeReference 33 = .ok (.iastore, 1) := by decide +kernel
theorem dC_removeReference_34 : decode cC_removeReference 34 = .ok (.aload_n 0, 1) := by decide +kernel
theorem dC_removeReference_35 : decode cC_removeReference 35 = .ok (.getfield 19, 3) := by decide +kernel
theorem dC_removeReference_38 : decode cC_removeReference 38 = .ok (.iload_n 2, 1) := by decide +kernel
theorem dC_removeReference_39 : decode cC_removeReference 39 = .ok (.aload_n 0, 1) := by decide +kernel
theorem dC_removeReference_40 : decode cC_removeReference 40 = .ok (.getfield 19, 3) := by decide +kernel
theorem dC_removeReference_43 : decode cC_removeReference 43 = .ok (.iload_n 2, 1) := by decide +kernel
theorem dC_removeReference_44 : decode cC_removeReference 44 = .ok (.iconst 1, 1) := by decide +kernel
theorem dC_removeReference_45 : decode cC_removeReference 45 = .ok (.iadd, 1) := by decide +kernel
theorem dC_removeReference_46 : decode cC_removeReference 46 = .ok (.iaload, 1) := by decide +kernel
theorem dC_removeReference_47 : decode cC_removeReference 47 = .ok (.iastore, 1) := by decide +kernel
theorem dC_removeReference_48 : decode cC_removeReference 48 = .ok (.iinc 2 1, 3) := by decide +kernel
theorem dC_removeReference_51 : decode cC_removeReference 51 = .ok (.goto (-39), 3) := by decide +kernel
theorem dC_removeReference_54 : decode cC_removeReference 54 = .ok (.return_, 1) := by decide +kernel
abbrev cC_names : ByteArray := prog_4_method_14_code
abbrev yC_names : MethodName := ⟨"DrawingVault$Content", "names", "(II)Z"⟩
theorem dC_names_0 : decode cC_names 0 = .ok (.iconst 0, 1) := by decide +kernel
theorem dC_names_1 : decode cC_names 1 = .ok (.istore_n 3, 1) := by decide +kernel
theorem dC_names_2 : decode cC_names 2 = .ok (.iload_n 3, 1) := by decide +kernel
theorem dC_names_3 : decode cC_names 3 = .ok (.aload_n 0, 1) := by decide +kernel
theorem dC_names_4 : decode cC_names 4 = .ok (.getfield 32, 3) := by decide +kernel
theorem dC_names_7 : decode cC_names 7 = .ok (.if_icmp .ge 31, 3) := by decide +kernel
theorem dC_names_10 : decode cC_names 10 = .ok (.aload_n 0, 1) := by decide +kernel
theorem dC_names_11 : decode cC_names 11 = .ok (.getfield 15, 3) := by decide +kernel
theorem dC_names_14 : decode cC_names 14 = .ok (.iload_n 3, 1) := by decide +kernel
theorem dC_names_15 : decode cC_names 15 = .ok (.iaload, 1) := by decide +kernel
theorem dC_names_16 : decode cC_names 16 = .ok (.iload_n 1, 1) := by decide +kernel
theorem dC_names_17 : decode cC_names 17 = .ok (.if_icmp .ne 15, 3) := by decide +kernel
theorem dC_names_20 : decode cC_names 20 = .ok (.aload_n 0, 1) := by decide +kernel
theorem dC_names_21 : decode cC_names 21 = .ok (.getfield 19, 3) := by decide +kernel
theorem dC_names_24 : decode cC_names 24 = .ok (.iload_n 3, 1) := by decide +kernel
theorem dC_names_25 : decode cC_names 25 = .ok (.iaload, 1) := by decide +kernel
theorem dC_names_26 : decode cC_names 26 = .ok (.iload_n 2, 1) := by decide +kernel
theorem dC_names_27 : decode cC_names 27 = .ok (.if_icmp .ne 5, 3) := by decide +kernel
theorem dC_names_30 : decode cC_names 30 = .ok (.iconst 1, 1) := by decide +kernel
theorem dC_names_31 : decode cC_names 31 = .ok (.ireturn, 1) := by decide +kernel
theorem dC_names_32 : decode cC_names 32 = .ok (.iinc 3 1, 3) := by decide +kernel
theorem dC_names_35 : decode cC_names 35 = .ok (.goto (-33), 3) := by decide +kernel
theorem dC_names_38 : decode cC_names 38 = .ok (.iconst 0, 1) := by decide +kernel
theorem dC_names_39 : decode cC_names 39 = .ok (.ireturn, 1) := by decide +kernel
abbrev cC_takeFrom : ByteArray := prog_4_method_2_code
abbrev yC_takeFrom : MethodName := ⟨"DrawingVault$Content", "takeFrom", "(LDrawingVault$Content;)V"⟩
theorem dC_takeFrom_0 : decode cC_takeFrom 0 = .ok (.aload_n 1, 1) := by decide +kernel
theorem dC_takeFrom_1 : decode cC_takeFrom 1 = .ok (.getfield 9, 3) := by decide +kernel
theorem dC_takeFrom_4 : decode cC_takeFrom 4 = .ok (.iconst 0, 1) := by decide +kernel
theorem dC_takeFrom_5 : decode cC_takeFrom 5 = .ok (.aload_n 0, 1) := by decide +kernel
theorem dC_takeFrom_6 : decode cC_takeFrom 6 = .ok (.getfield 9, 3) := by decide +kernel
theorem dC_takeFrom_9 : decode cC_takeFrom 9 = .ok (.iconst 0, 1) := by decide +kernel
theorem dC_takeFrom_10 : decode cC_takeFrom 10 = .ok (.bipush 8, 2) := by decide +kernel
theorem dC_takeFrom_12 : decode cC_takeFrom 12 = .ok (.invokestatic 22, 3) := by decide +kernel
theorem dC_takeFrom_15 : decode cC_takeFrom 15 = .ok (.aload_n 1, 1) := by decide +kernel
theorem dC_takeFrom_16 : decode cC_takeFrom 16 = .ok (.getfield 15, 3) := by decide +kernel
theorem dC_takeFrom_19 : decode cC_takeFrom 19 = .ok (.iconst 0, 1) := by decide +kernel
theorem dC_takeFrom_20 : decode cC_takeFrom 20 = .ok (.aload_n 0, 1) := by decide +kernel
theorem dC_takeFrom_21 : decode cC_takeFrom 21 = .ok (.getfield 15, 3) := by decide +kernel
theorem dC_takeFrom_24 : decode cC_takeFrom 24 = .ok (.iconst 0, 1) := by decide +kernel
theorem dC_takeFrom_25 : decode cC_takeFrom 25 = .ok (.bipush 6, 2) := by decide +kernel
theorem dC_takeFrom_27 : decode cC_takeFrom 27 = .ok (.invokestatic 22, 3) := by decide +kernel
theorem dC_takeFrom_30 : decode cC_takeFrom 30 = .ok (.aload_n 1, 1) := by decide +kernel
theorem dC_takeFrom_31 : decode cC_takeFrom 31 = .ok (.getfield 19, 3) := by decide +kernel
theorem dC_takeFrom_34 : decode cC_takeFrom 34 = .ok (.iconst 0, 1) := by decide +kernel
theorem dC_takeFrom_35 : decode cC_takeFrom 35 = .ok (.aload_n 0, 1) := by decide +kernel
theorem dC_takeFrom_36 : decode cC_takeFrom 36 = .ok (.getfield 19, 3) := by decide +kernel
theorem dC_takeFrom_39 : decode cC_takeFrom 39 = .ok (.iconst 0, 1) := by decide +kernel
theorem dC_takeFrom_40 : decode cC_takeFrom 40 = .ok (.bipush 6, 2) := by decide +kernel
theorem dC_takeFrom_42 : decode cC_takeFrom 42 = .ok (.invokestatic 22, 3) := by decide +kernel
theorem dC_takeFrom_45 : decode cC_takeFrom 45 = .ok (.aload_n 0, 1) := by decide +kernel
theorem dC_takeFrom_46 : decode cC_takeFrom 46 = .ok (.aload_n 1, 1) := by decide +kernel
theorem dC_takeFrom_47 : decode cC_takeFrom 47 = .ok (.getfield 28, 3) := by decide +kernel
theorem dC_takeFrom_50 : decode cC_takeFrom 50 = .ok (.putfield 28, 3) := by decide +kernel
theorem dC_takeFrom_53 : decode cC_takeFrom 53 = .ok (.aload_n 0, 1) := by decide +kernel
theorem dC_takeFrom_54 : decode cC_takeFrom 54 = .ok (.aload_n 1, 1) := by decide +kernel
theorem dC_takeFrom_55 : decode cC_takeFrom 55 = .ok (.getfield 32, 3) := by decide +kernel
theorem dC_takeFrom_58 : decode cC_takeFrom 58 = .ok (.putfield 32, 3) := by decide +kernel
theorem dC_takeFrom_61 : decode cC_takeFrom 61 = .ok (.return_, 1) := by decide +kernel
abbrev cV_bit : ByteArray := prog_1_method_41_code
abbrev yV_bit : MethodName := ⟨"DrawingVault", "bit", "(I)I"⟩
theorem dV_bit_0 : decode cV_bit 0 = .ok (.iconst 1, 1) := by decide +kernel
theorem dV_bit_1 : decode cV_bit 1 = .ok (.iload_n 0, 1) := by decide +kernel
theorem dV_bit_2 : decode cV_bit 2 = .ok (.ishl, 1) := by decide +kernel
theorem dV_bit_3 : decode cV_bit 3 = .ok (.ireturn, 1) := by decide +kernel
abbrev cC_targetBits : ByteArray := prog_4_method_15_code
abbrev yC_targetBits : MethodName := ⟨"DrawingVault$Content", "targetBits", "()I"⟩
theorem dC_targetBits_0 : decode cC_targetBits 0 = .ok (.iconst 0, 1) := by decide +kernel
theorem dC_targetBits_1 : decode cC_targetBits 1 = .ok (.istore_n 1, 1) := by decide +kernel
theorem dC_targetBits_2 : decode cC_targetBits 2 = .ok (.iconst 0, 1) := by decide +kernel
theorem dC_targetBits_3 : decode cC_targetBits 3 = .ok (.istore_n 2, 1) := by decide +kernel
theorem dC_targetBits_4 : decode cC_targetBits 4 = .ok (.iload_n 2, 1) := by decide +kernel
theorem dC_targetBits_5 : decode cC_targetBits 5 = .ok (.aload_n 0, 1) := by decide +kernel
theorem dC_targetBits_6 : decode cC_targetBits 6 = .ok (.getfield 32, 3) := by decide +kernel
theorem dC_targetBits_9 : decode cC_targetBits 9 = .ok (.if_icmp .ge 21, 3) := by decide +kernel
theorem dC_targetBits_12 : decode cC_targetBits 12 = .ok (.iload_n 1, 1) := by decide +kernel
theorem dC_targetBits_13 : decode cC_targetBits 13 = .ok (.aload_n 0, 1) := by decide +kernel
theorem dC_targetBits_14 : decode cC_targetBits 14 = .ok (.getfield 15, 3) := by decide +kernel
theorem dC_targetBits_17 : decode cC_targetBits 17 = .ok (.iload_n 2, 1) := by decide +kernel
theorem dC_targetBits_18 : decode cC_targetBits 18 = .ok (.iaload, 1) := by decide +kernel
theorem dC_targetBits_19 : decode cC_targetBits 19 = .ok (.invokestatic 65, 3) := by decide +kernel
theorem dC_targetBits_22 : decode cC_targetBits 22 = .ok (.ior, 1) := by decide +kernel
theorem dC_targetBits_23 : decode cC_targetBits 23 = .ok (.istore_n 1, 1) := by decide +kernel
theorem dC_targetBits_24 : decode cC_targetBits 24 = .ok (.iinc 2 1, 3) := by decide +kernel
theorem dC_targetBits_27 : decode cC_targetBits 27 = .ok (.goto (-23), 3) := by decide +kernel
theorem dC_targetBits_30 : decode cC_targetBits 30 = .ok (.iload_n 1, 1) := by decide +kernel
theorem dC_targetBits_31 : decode cC_targetBits 31 = .ok (.ireturn, 1) := by decide +kernel
abbrev cP_failAhead : ByteArray := prog_6_method_2_code
abbrev yP_failAhead : MethodName := ⟨"DrawingVault$Pages", "failAhead", "(I)V"⟩
theorem dP_failAhead_0 : decode cP_failAhead 0 = .ok (.aload_n 0, 1) := by decide +kernel
theorem dP_failAhead_1 : decode cP_failAhead 1 = .ok (.iconst 1, 1) := by decide +kernel
theorem dP_failAhead_2 : decode cP_failAhead 2 = .ok (.putfield 15, 3) := by decide +kernel
theorem dP_failAhead_5 : decode cP_failAhead 5 = .ok (.aload_n 0, 1) := by decide +kernel
theorem dP_failAhead_6 : decode cP_failAhead 6 = .ok (.iload_n 1, 1) := by decide +kernel
theorem dP_failAhead_7 : decode cP_failAhead 7 = .ok (.putfield 19, 3) := by decide +kernel
theorem dP_failAhead_10 : decode cP_failAhead 10 = .ok (.return_, 1) := by decide +kernel
abbrev cP_switchOn : ByteArray := prog_6_method_3_code
abbrev yP_switchOn : MethodName := ⟨"DrawingVault$Pages", "switchOn", "()V"⟩
theorem dP_switchOn_0 : decode cP_switchOn 0 = .ok (.aload_n 0, 1) := by decide +kernel
theorem dP_switchOn_1 : decode cP_switchOn 1 = .ok (.iconst 0, 1) := by decide +kernel
theorem dP_switchOn_2 : decode cP_switchOn 2 = .ok (.putfield 22, 3) := by decide +kernel
theorem dP_switchOn_5 : decode cP_switchOn 5 = .ok (.aload_n 0, 1) := by decide +kernel
theorem dP_switchOn_6 : decode cP_switchOn 6 = .ok (.iconst 0, 1) := by decide +kernel
theorem dP_switchOn_7 : decode cP_switchOn 7 = .ok (.putfield 15, 3) := by decide +kernel
theorem dP_switchOn_10 : decode cP_switchOn 10 = .ok (.return_, 1) := by decide +kernel
abbrev cP_failsBy : ByteArray := prog_6_method_4_code
abbrev yP_failsBy : MethodName := ⟨"DrawingVault$Pages", "failsBy", "(I)Z"⟩
theorem dP_failsBy_0 : decode cP_failsBy 0 = .ok (.aload_n 0, 1) := by decide +kernel
theorem dP_failsBy_1 : decode cP_failsBy 1 = .ok (.getfield 15, 3) := by decide +kernel
theorem dP_failsBy_4 : decode cP_failsBy 4 = .ok (.ifCond .eq 15, 3) := by decide +kernel
theorem dP_failsBy_7 : decode cP_failsBy 7 = .ok (.iload_n 1, 1) := by decide +kernel
theorem dP_failsBy_8 : decode cP_failsBy 8 = .ok (.aload_n 0, 1) := by decide +kernel
theorem dP_failsBy_9 : decode cP_failsBy 9 = .ok (.getfield 19, 3) := by decide +kernel
theorem dP_failsBy_12 : decode cP_failsBy 12 = .ok (.if_icmp .le 7, 3) := by decide +kernel
theorem dP_failsBy_15 : decode cP_failsBy 15 = .ok (.iconst 1, 1) := by decide +kernel
theorem dP_failsBy_16 : decode cP_failsBy 16 = .ok (.goto 4, 3) := by decide +kernel
theorem dP_failsBy_19 : decode cP_failsBy 19 = .ok (.iconst 0, 1) := by decide +kernel
theorem dP_failsBy_20 : decode cP_failsBy 20 = .ok (.ireturn, 1) := by decide +kernel
abbrev cP_write : ByteArray := prog_6_method_5_code
abbrev yP_write : MethodName := ⟨"DrawingVault$Pages", "write", "(I)V"⟩
theorem dP_write_0 : decode cP_write 0 = .ok (.aload_n 0, 1) := by decide +kernel
theorem dP_write_1 : decode cP_write 1 = .ok (.dup, 1) := by decide +kernel
theorem dP_write_2 : decode cP_write 2 = .ok (.getfield 9, 3) := by decide +kernel
theorem dP_write_5 : decode cP_write 5 = .ok (.iload_n 1, 1) := by decide +kernel
theorem dP_write_6 : decode cP_write 6 = .ok (.isub, 1) := by decide +kernel
theorem dP_write_7 : decode cP_write 7 = .ok (.putfield 9, 3) := by decide +kernel
theorem dP_write_10 : decode cP_write 10 = .ok (.aload_n 0, 1) := by decide +kernel
theorem dP_write_11 : decode cP_write 11 = .ok (.dup, 1) := by decide +kernel
theorem dP_write_12 : decode cP_write 12 = .ok (.getfield 25, 3) := by decide +kernel
theorem dP_write_15 : decode cP_write 15 = .ok (.iconst 1, 1) := by decide +kernel
theorem dP_write_16 : decode cP_write 16 = .ok (.iadd, 1) := by decide +kernel
theorem dP_write_17 : decode cP_write 17 = .ok (.putfield 25, 3) := by decide +kernel
theorem dP_write_20 : decode cP_write 20 = .ok (.aload_n 0, 1) := by decide +kernel
theorem dP_write_21 : decode cP_write 21 = .ok (.getfield 15, 3) := by decide +kernel
theorem dP_write_24 : decode cP_write 24 = .ok (.ifCond .eq 13, 3) := by decide +kernel
theorem dP_write_27 : decode cP_write 27 = .ok (.aload_n 0, 1) := by decide +kernel
theorem dP_write_28 : decode cP_write 28 = .ok (.dup, 1) := by decide +kernel
theorem dP_write_29 : decode cP_write 29 = .ok (.getfield 19, 3) := by decide +kernel
theorem dP_write_32 : decode cP_write 32 = .ok (.iload_n 1, 1) := by decide +kernel
theorem dP_write_33 : decode cP_write 33 = .ok (.isub, 1) := by decide +kernel
theorem dP_write_34 : decode cP_write 34 = .ok (.putfield 19, 3) := by decide +kernel
theorem dP_write_37 : decode cP_write 37 = .ok (.return_, 1) := by decide +kernel
abbrev cP_areLow : ByteArray := prog_6_method_6_code
abbrev yP_areLow : MethodName := ⟨"DrawingVault$Pages", "areLow", "()Z"⟩
theorem dP_areLow_0 : decode cP_areLow 0 = .ok (.aload_n 0, 1) := by decide +kernel
theorem dP_areLow_1 : decode cP_areLow 1 = .ok (.getfield 9, 3) := by decide +kernel
theorem dP_areLow_4 : decode cP_areLow 4 = .ok (.bipush 40, 2) := by decide +kernel
theorem dP_areLow_6 : decode cP_areLow 6 = .ok (.if_icmp .ge 7, 3) := by decide +kernel
theorem dP_areLow_9 : decode cP_areLow 9 = .ok (.iconst 1, 1) := by decide +kernel
theorem dP_areLow_10 : decode cP_areLow 10 = .ok (.goto 4, 3) := by decide +kernel
theorem dP_areLow_13 : decode cP_areLow 13 = .ok (.iconst 0, 1) := by decide +kernel
theorem dP_areLow_14 : decode cP_areLow 14 = .ok (.ireturn, 1) := by decide +kernel
abbrev cP_copyForward : ByteArray := prog_6_method_7_code
abbrev yP_copyForward : MethodName := ⟨"DrawingVault$Pages", "copyForward", "(I)V"⟩
theorem dP_copyForward_0 : decode cP_copyForward 0 = .ok (.sipush 400, 3) := by decide +kernel
theorem dP_copyForward_3 : decode cP_copyForward 3 = .ok (.iload_n 1, 1) := by decide +kernel
theorem dP_copyForward_4 : decode cP_copyForward 4 = .ok (.isub, 1) := by decide +kernel
theorem dP_copyForward_5 : decode cP_copyForward 5 = .ok (.bipush 40, 2) := by decide +kernel
theorem dP_copyForward_7 : decode cP_copyForward 7 = .ok (.if_icmp .lt 22, 3) := by decide +kernel
theorem dP_copyForward_10 : decode cP_copyForward 10 = .ok (.aload_n 0, 1) := by decide +kernel
theorem dP_copyForward_11 : decode cP_copyForward 11 = .ok (.sipush 400, 3) := by decide +kernel
theorem dP_copyForward_14 : decode cP_copyForward 14 = .ok (.iload_n 1, 1) := by decide +kernel
theorem dP_copyForward_15 : decode cP_copyForward 15 = .ok (.isub, 1) := by decide +kernel
theorem dP_copyForward_16 : decode cP_copyForward 16 = .ok (.putfield 9, 3) := by decide +kernel
theorem dP_copyForward_19 : decode cP_copyForward 19 = .ok (.aload_n 0, 1) := by decide +kernel
theorem dP_copyForward_20 : decode cP_copyForward 20 = .ok (.dup, 1) := by decide +kernel
theorem dP_copyForward_21 : decode cP_copyForward 21 = .ok (.getfield 28, 3) := by decide +kernel
theorem dP_copyForward_24 : decode cP_copyForward 24 = .ok (.iconst 1, 1) := by decide +kernel
theorem dP_copyForward_25 : decode cP_copyForward 25 = .ok (.iadd, 1) := by decide +kernel
theorem dP_copyForward_26 : decode cP_copyForward 26 = .ok (.putfield 28, 3) := by decide +kernel
theorem dP_copyForward_29 : decode cP_copyForward 29 = .ok (.return_, 1) := by decide +kernel
theorem wd_223 : (.fieldLink "DrawingVault$Content" 28 "DrawingVault$Content" "bytes" "I" : Cond) ∈ aw := aw_in (tb_2 (List.mem_of_getElem? (i := 139) rfl)) rfl
theorem wd_224 : (.fieldLink "DrawingVault$Content" 9 "DrawingVault$Content" "pieces" "[J" : Cond) ∈ aw := aw_in (tb_2 (List.mem_of_getElem? (i := 137) rfl)) rfl
theorem wd_225 : (.code ⟨"DrawingVault$Content", "shiftOf", "(I)I"⟩ prog_4_method_16_code 1 (Option.some .int) : Cond) ∈ aw := aw_in (tb_3 (List.mem_of_getElem? (i := 21) rfl)) rfl
theorem wd_226 : (.methodLink "DrawingVault$Content" 41 ⟨"DrawingVault$Content", "shiftOf", "(I)I"⟩ : Cond) ∈ aw := aw_in (tb_3 (List.mem_of_getElem? (i := 19) rfl)) rfl
theorem wd_227 : (.static ⟨"DrawingVault$Content", "shiftOf", "(I)I"⟩ : Cond) ∈ aw := aw_in (tb_3 (List.mem_of_getElem? (i := 20) rfl)) rfl
theorem wd_228 : (.initialized "DrawingVault$Content" : Cond) ∈ aw := aw_in (tb_1 (List.mem_of_getElem? (i := 14) rfl)) rfl
theorem wd_229 : (.constantLong "DrawingVault$Content" 45 (255 : Int64) : Cond) ∈ aw := aw_in (tb_3 (List.mem_of_getElem? (i := 18) rfl)) rfl
theorem wd_230 : (.constantLong "DrawingVault$Content" 47 (-1 : Int64) : Cond) ∈ aw := aw_in (tb_3 (List.mem_of_getElem? (i := 22) rfl)) rfl
theorem wd_231 : (.code ⟨"DrawingVault$Content", "setByte", "(II)V"⟩ prog_4_method_6_code 5 (Option.none : Option Jvm.ClassFile.FieldType) : Cond) ∈ aw := aw_in (tb_3 (List.mem_of_getElem? (i := 17) rfl)) rfl
theorem wd_232 : (.methodLink "DrawingVault$Content" 49 ⟨"DrawingVault$Content", "setByte", "(II)V"⟩ : Cond) ∈ aw := aw_in (tb_3 (List.mem_of_getElem? (i := 34) rfl)) rfl
theorem wd_233 : (.instanceMethod ⟨"DrawingVault$Content", "setByte", "(II)V"⟩ : Cond) ∈ aw := aw_in (tb_3 (List.mem_of_getElem? (i := 15) rfl)) rfl
theorem wd_234 : (.selects "DrawingVault$Content" ⟨"DrawingVault$Content", "setByte", "(II)V"⟩ ⟨"DrawingVault$Content", "setByte", "(II)V"⟩ : Cond) ∈ aw := aw_in (tb_3 (List.mem_of_getElem? (i := 16) rfl)) rfl
theorem wd_235 : (.methodLink "DrawingVault$Content" 53 ⟨"java/lang/Math", "min", "(II)I"⟩ : Cond) ∈ aw := aw_in (tb_1 (List.mem_of_getElem? (i := 222) rfl)) rfl
theorem wd_236 : (.static ⟨"java/lang/Math", "min", "(II)I"⟩ : Cond) ∈ aw := aw_in (tb_1 (List.mem_of_getElem? (i := 223) rfl)) rfl
theorem wd_237 : (.initialized "java/lang/Math" : Cond) ∈ aw := aw_in (tb_1 (List.mem_of_getElem? (i := 12) rfl)) rfl
theorem wd_238 : (.code ⟨"java/lang/Math", "min", "(II)I"⟩ prog_13_method_69_code 2 (Option.some .int) : Cond) ∈ aw := aw_in (tb_1 (List.mem_of_getElem? (i := 224) rfl)) rfl
theorem wd_239 : (.methodLink "DrawingVault$Content" 59 ⟨"java/lang/Math", "max", "(II)I"⟩ : Cond) ∈ aw := aw_in (tb_1 (List.mem_of_getElem? (i := 225) rfl)) rfl
theorem wd_240 : (.static ⟨"java/lang/Math", "max", "(II)I"⟩ : Cond) ∈ aw := aw_in (tb_1 (List.mem_of_getElem? (i := 226) rfl)) rfl
theorem wd_241 : (.code ⟨"java/lang/Math", "max", "(II)I"⟩ prog_13_method_65_code 2 (Option.some .int) : Cond) ∈ aw := aw_in (tb_1 (List.mem_of_getElem? (i := 227) rfl)) rfl
theorem wd_242 : (.code ⟨"DrawingVault$Content", "pieceLength", "(I)I"⟩ prog_4_method_9_code 2 (Option.some .int) : Cond) ∈ aw := aw_in (tb_1 (List.mem_of_getElem? (i := 221) rfl)) rfl
theorem wd_243 : (.methodLink "DrawingVault$Content" 62 ⟨"DrawingVault$Content", "pieceLength", "(I)I"⟩ : Cond) ∈ aw := aw_in (tb_4 (List.mem_of_getElem? (i := 19) rfl)) rfl
theorem wd_244 : (.instanceMethod ⟨"DrawingVault$Content", "pieceLength", "(I)I"⟩ : Cond) ∈ aw := aw_in (tb_1 (List.mem_of_getElem? (i := 219) rfl)) rfl
theorem wd_245 : (.selects "DrawingVault$Content" ⟨"DrawingVault$Content", "pieceLength", "(I)I"⟩ ⟨"DrawingVault$Content", "pieceLength", "(I)I"⟩ : Cond) ∈ aw := aw_in (tb_1 (List.mem_of_getElem? (i := 220) rfl)) rfl
theorem wd_246 : (.fieldLink "DrawingVault$Content" 32 "DrawingVault$Content" "references" "I" : Cond) ∈ aw := aw_in (tb_2 (List.mem_of_getElem? (i := 145) rfl)) rfl
theorem wd_247 : (.fieldLink "DrawingVault$Content" 15 "DrawingVault$Content" "targets" "[I" : Cond) ∈ aw := aw_in (tb_2 (List.mem_of_getElem? (i := 141) rfl)) rfl
theorem wd_248 : (.fieldLink "DrawingVault$Content" 19 "DrawingVault$Content" "fixed" "[I" : Cond) ∈ aw := aw_in (tb_2 (List.mem_of_getElem? (i := 143) rfl)) rfl
theorem wd_249 : (.methodLink "DrawingVault$Content" 22 ⟨"java/lang/System", "arraycopy", "(Ljava/lang/Object;ILjava/lang/Object;II)V"⟩ : Cond) ∈ aw := aw_in (tb_1 (List.mem_of_getElem? (i := 183) rfl)) rfl
theorem wd_250 : (.native ⟨"java/lang/System", "arraycopy", "(Ljava/lang/Object;ILjava/lang/Object;II)V"⟩ : Cond) ∈ aw := aw_in (tb_1 (List.mem_of_getElem? (i := 185) rfl)) rfl
theorem wd_251 : (.static ⟨"java/lang/System", "arraycopy", "(Ljava/lang/Object;ILjava/lang/Object;II)V"⟩ : Cond) ∈ aw := aw_in (tb_1 (List.mem_of_getElem? (i := 184) rfl)) rfl
theorem wd_252 : (.initialized "java/lang/System" : Cond) ∈ aw := aw_in (tb_1 (List.mem_of_getElem? (i := 11) rfl)) rfl
theorem wd_253 : (.code ⟨"DrawingVault", "bit", "(I)I"⟩ prog_1_method_41_code 1 (Option.some .int) : Cond) ∈ aw := aw_in (tb_1 (List.mem_of_getElem? (i := 145) rfl)) rfl
theorem wd_254 : (.initialized "DrawingVault" : Cond) ∈ aw := aw_in (tb_1 (List.mem_of_getElem? (i := 1) rfl)) rfl
theorem wd_255 : (.static ⟨"DrawingVault", "bit", "(I)I"⟩ : Cond) ∈ aw := aw_in (tb_1 (List.mem_of_getElem? (i := 144) rfl)) rfl
theorem wd_256 : (.fieldLink "DrawingVault$Pages" 15 "DrawingVault$Pages" "failureAhead" "Z" : Cond) ∈ aw := aw_in (tb_1 (List.mem_of_getElem? (i := 84) rfl)) rfl
theorem wd_257 : (.fieldLink "DrawingVault$Pages" 19 "DrawingVault$Pages" "beforeFailure" "I" : Cond) ∈ aw := aw_in (tb_1 (List.mem_of_getElem? (i := 85) rfl)) rfl
theorem wd_258 : (.fieldLink "DrawingVault$Pages" 22 "DrawingVault$Pages" "failed" "Z" : Cond) ∈ aw := aw_in (tb_1 (List.mem_of_getElem? (i := 82) rfl)) rfl
theorem wd_259 : (.fieldLink "DrawingVault$Pages" 9 "DrawingVault$Pages" "free" "I" : Cond) ∈ aw := aw_in (tb_1 (List.mem_of_getElem? (i := 76) rfl)) rfl
theorem wd_260 : (.fieldLink "DrawingVault$Pages" 25 "DrawingVault$Pages" "commands" "I" : Cond) ∈ aw := aw_in (tb_1 (List.mem_of_getElem? (i := 78) rfl)) rfl
theorem wd_261 : (.fieldLink "DrawingVault$Pages" 28 "DrawingVault$Pages" "copiedForward" "I" : Cond) ∈ aw := aw_in (tb_1 (List.mem_of_getElem? (i := 80) rfl)) rfl

def C_hasByte (σ : hT) (j0 : Nat) (a1 : Int32) : Int32 := if a1 < 0 then 0 else if (xI σ 601 j0 0) ≤ a1 then 0 else 1
set_option maxHeartbeats 4000000 in
set_option maxRecDepth 100000 in
theorem t_C_hasByte (l : Launch) (dC : Nat → ClassId) (dI : Nat → Nat → Nat) (ad : Nat → Nat → Nat) (ca : Nat → Nat → ClassId) (dom : List (Nat × Nat)) (σ : hT) (j0 : Nat) (a1 : Int32) (hm0 : (5, j0) ∈ dom) (hN : dom.Nodup) (hC : clo dom σ.2.2) (ρ : Int32) (hf : C_hasByte σ j0 a1 = ρ) : Met l yC_hasByte (.code yC_hasByte cC_hasByte 2 (some .boolean) :: aw) ({ frames := 0, cells := 0, slots := 0, locals := 0 }) (hR (dC, dI) ad ca dom σ [.ref (ad 5 j0), .int a1]) (vp_Si (fun r => r = ρ)) 0 0 (fun _ => False) := by
  refine Met.ofW (cc := cC_hasByte) (maxL := 2) (ret := (some .boolean)) (by decide) rfl ?_
  intro p e s m args below meth c s₁ B hml hv
  obtain ⟨rfl, hv⟩ := hv
  have hx := B.exec
  have hb := B.bytes
  have hr := B.returns
  have hts : ∀ w ∈ aw, w.before _ s = true := fun w h => atoms_spec (ws := (.code yC_hasByte cC_hasByte 2 (some .boolean) :: aw)) B.pre w (List.mem_cons_of_mem _ h)
  have hown : s.vm.findClass RC = some m.cls := findClass_of_methodNamed B.named
  have hlocks := B.notSynchronized
  obtain ⟨hP, hK, hG⟩ := hv
  obtain ⟨H, hH⟩ : ∃ H, H = s.heap := ⟨_, rfl⟩
  rw [← hH] at hP ⊢
  unfold C_hasByte at hf
  have hl := lv_entry ([.ref (ad 5 j0), .int a1]) (n := 2) (Nat.le_of_ble_eq_true rfl)
  rw [lg_entry_eq]
  generalize (lg_sl ([.ref (ad 5 j0), .int a1]) ++ List.replicate (2 - (lg_sl ([.ref (ad 5 j0), .int a1])).length) Slot.unset).toArray = ls at hl ⊢
  have hl : lv_has ls 2 [(0, .ref (ad 5 j0)), (1, .int a1)] := hl
  refine lv_iload_n (pc := 0) hx hb dC_hasByte_0 rfl (lv_at hl 1 rfl) ?_
  refine lv_if_lt (pc := 1) (tgt := 16) hx hb dC_hasByte_1 rfl (fun h1 => ?_) (fun h1 => ?_)
  · replace hf := ite_t h1 hf
    refine lv_iconst (pc := 16) (v := 0) hx hb dC_hasByte_16 (by decide) ?_
    exact W.zret (pc := 17) hx hb hr (rfl) (fun t ht hW => ⟨_, rfl, hf, ht.trans hH⟩) (fun q h => nomatch h) dC_hasByte_17
  · replace hf := ite_f h1 hf
    refine lv_iload_n (pc := 4) hx hb dC_hasByte_4 rfl (lv_at hl 1 rfl) ?_
    refine lv_aload_n (pc := 5) hx hb dC_hasByte_5 rfl (lv_at hl 0 rfl) ?_
    obtain ⟨q2, hq2, eq2⟩ := at_5 (ad := ad) (ca := ca) (σ := σ) hm0
    refine va_get (D := (dC, dI)) (cl := kCl) (C := RC) (T := TC) (N := 5) (pc := 6) hx hb hts inC hown hK.1 hP q2 eq2 rfl 1 (by decide) (hts _ wd_223) (fun _ h9 => h9) rfl dC_hasByte_6 ?_
    refine lv_icmp_ge (pc := 9) (tgt := 16) hx hb dC_hasByte_9 rfl (fun h3 => ?_) (fun h3 => ?_)
    · replace hf := ite_t h3 hf
      refine lv_iconst (pc := 16) (v := 0) hx hb dC_hasByte_16 (by decide) ?_
      exact W.zret (pc := 17) hx hb hr (rfl) (fun t ht hW => ⟨_, rfl, hf, ht.trans hH⟩) (fun q h => nomatch h) dC_hasByte_17
    · replace hf := ite_f h3 hf
      refine lv_iconst (pc := 12) (v := 1) hx hb dC_hasByte_12 (by decide) ?_
      refine lv_goto (pc := 13) (tgt := 17) hx hb dC_hasByte_13 rfl ?_
      exact W.zret (pc := 17) hx hb hr (rfl) (fun t ht hW => ⟨_, rfl, hf, ht.trans hH⟩) (fun q h => nomatch h) dC_hasByte_17
def C_shiftOf (a0 : Int32) : Int32 := ((a0 - a0 / 8 * 8) * 8)
set_option maxHeartbeats 4000000 in
set_option maxRecDepth 100000 in
theorem t_C_shiftOf (l : Launch) (dC : Nat → ClassId) (dI : Nat → Nat → Nat) (ad : Nat → Nat → Nat) (ca : Nat → Nat → ClassId) (dom : List (Nat × Nat)) (a0 : Int32) (σ : hT) (hN : dom.Nodup) (hC : clo dom σ.2.2) (ρ : Int32) (hf : C_shiftOf a0 = ρ) : Met l yC_shiftOf (.code yC_shiftOf cC_shiftOf 1 (some .int) :: aw) ({ frames := 0, cells := 0, slots := 0, locals := 0 }) (hR (dC, dI) ad ca dom σ [.int a0]) (vp_Si (fun r => r = ρ)) 0 0 (fun _ => False) := by
  refine Met.ofW (cc := cC_shiftOf) (maxL := 1) (ret := (some .int)) (by decide) rfl ?_
  intro p e s m args below meth c s₁ B hml hv
  obtain ⟨rfl, hv⟩ := hv
  have hx := B.exec
  have hb := B.bytes
  have hr := B.returns
  have hts : ∀ w ∈ aw, w.before _ s = true := fun w h => atoms_spec (ws := (.code yC_shiftOf cC_shiftOf 1 (some .int) :: aw)) B.pre w (List.mem_cons_of_mem _ h)
  have hown : s.vm.findClass RC = some m.cls := findClass_of_methodNamed B.named
  have hlocks := B.notSynchronized
  obtain ⟨hP, hK, hG⟩ := hv
  obtain ⟨H, hH⟩ : ∃ H, H = s.heap := ⟨_, rfl⟩
  rw [← hH] at hP ⊢
  unfold C_shiftOf at hf
  have hl := lv_entry ([.int a0]) (n := 1) (Nat.le_of_ble_eq_true rfl)
  rw [lg_entry_eq]
  generalize (lg_sl ([.int a0]) ++ List.replicate (1 - (lg_sl ([.int a0])).length) Slot.unset).toArray = ls at hl ⊢
  have hl : lv_has ls 1 [(0, .int a0)] := hl
  refine lv_iload_n (pc := 0) hx hb dC_shiftOf_0 rfl (lv_at hl 0 rfl) ?_
  refine lv_bipush (pc := 1) (v := 8) hx hb dC_shiftOf_1 (by decide) ?_
  refine lv_irem (pc := 3) hx hb dC_shiftOf_3 (by decide) ?_
  refine lv_bipush (pc := 4) (v := 8) hx hb dC_shiftOf_4 (by decide) ?_
  refine lv_imul (pc := 6) hx hb dC_shiftOf_6 ?_
  exact W.iret (pc := 7) hx hb hr (fun t ht hW => ⟨_, rfl, hf, ht.trans hH⟩) (fun q h => nomatch h) dC_shiftOf_7
def C_byteAt (σ : hT) (j0 : Nat) (a1 : Int32) : Option (Int32) := if in9 (a1 / 8) 8 then some ((((xL σ 20 j0 ((a1 / 8)).toNatClampNeg).toUInt64 >>> ((C_shiftOf a1).toInt64.toUInt64 &&& Int64.toUInt64 63)).toInt64).toInt32 &&& 255) else none
set_option maxHeartbeats 4000000 in
set_option maxRecDepth 100000 in
theorem t_C_byteAt (l : Launch) (dC : Nat → ClassId) (dI : Nat → Nat → Nat) (ad : Nat → Nat → Nat) (ca : Nat → Nat → ClassId) (dom : List (Nat × Nat)) (σ : hT) (j0 : Nat) (a1 : Int32) (hm0 : (5, j0) ∈ dom) (hN : dom.Nodup) (hC : clo dom σ.2.2) (ρ : Int32) (hf : C_byteAt σ j0 a1 = some ρ) : Met l yC_byteAt (.code yC_byteAt cC_byteAt 2 (some .int) :: aw) ({ frames := 1, cells := 0, slots := 0, locals := 20 }) (hR (dC, dI) ad ca dom σ [.ref (ad 5 j0), .int a1]) (vp_Si (fun r => r = ρ)) 0 0 (fun _ => False) := by
  refine Met.ofW (cc := cC_byteAt) (maxL := 2) (ret := (some .int)) (by decide) rfl ?_
  intro p e s m args below meth c s₁ B hml hv
  obtain ⟨rfl, hv⟩ := hv
  have hx := B.exec
  have hb := B.bytes
  have hr := B.returns
  have hts : ∀ w ∈ aw, w.before _ s = true := fun w h => atoms_spec (ws := (.code yC_byteAt cC_byteAt 2 (some .int) :: aw)) B.pre w (List.mem_cons_of_mem _ h)
  have hown : s.vm.findClass RC = some m.cls := findClass_of_methodNamed B.named
  have hlocks := B.notSynchronized
  obtain ⟨hP, hK, hG⟩ := hv
  obtain ⟨H, hH⟩ : ∃ H, H = s.heap := ⟨_, rfl⟩
  rw [← hH] at hP ⊢
  unfold C_byteAt at hf
  have hl := lv_entry ([.ref (ad 5 j0), .int a1]) (n := 2) (Nat.le_of_ble_eq_true rfl)
  rw [lg_entry_eq]
  generalize (lg_sl ([.ref (ad 5 j0), .int a1]) ++ List.replicate (2 - (lg_sl ([.ref (ad 5 j0), .int a1])).length) Slot.unset).toArray = ls at hl ⊢
  have hl : lv_has ls 2 [(0, .ref (ad 5 j0)), (1, .int a1)] := hl
  refine lv_aload_n (pc := 0) hx hb dC_byteAt_0 rfl (lv_at hl 0 rfl) ?_
  obtain ⟨q1, hq1, eq1⟩ := at_5 (ad := ad) (ca := ca) (σ := σ) hm0
  refine va_get (D := (dC, dI)) (cl := kCl) (C := RC) (T := TC) (N := 5) (pc := 1) hx hb hts inC hown hK.1 hP q1 eq1 rfl 0 (by decide) (hts _ wd_224) (fun _ h9 => h9) rfl dC_byteAt_1 ?_
  refine lv_iload_n (pc := 4) hx hb dC_byteAt_4 rfl (lv_at hl 1 rfl) ?_
  refine lv_bipush (pc := 5) (v := 8) hx hb dC_byteAt_5 (by decide) ?_
  refine lv_idiv (pc := 7) hx hb dC_byteAt_7 (by decide) ?_
  obtain ⟨hv2, hf⟩ := ite_s hf
  obtain ⟨q3, hq3, eq3⟩ := at_20 (ad := ad) (ca := ca) (σ := σ) (cm_5_0 hC hm0)
  refine va_lald (D := (dC, dI)) (cl := kCl) (pc := 8) hx hb (hK.2 20 j0 .long (cm_5_0 hC hm0) rfl) hP q3 0 eq3 rfl (hv2) dC_byteAt_8 ?_
  refine W.eq (g2 := F0 m 9 ls [.long (xL σ 20 j0 ((a1 / 8)).toNatClampNeg)]) rfl ?_
  refine lv_iload_n (pc := 9) hx hb dC_byteAt_9 rfl (lv_at hl 1 rfl) ?_
  refine vp_callSi (pc := 10) (W.runS (As := [.int a1]) (rest := [.long (xL σ 20 j0 ((a1 / 8)).toNatClampNeg)]) ⟨hx, hb, hml, hown, hts⟩ (t_C_shiftOf l dC dI ad ca dom a1 σ hN hC (C_shiftOf a1) rfl) (cwS 1 hts (gS wd_226 wd_227 wd_228 wd_225) rfl rfl rfl (by decide +kernel) ⟨Nat.le_of_ble_eq_true rfl, Nat.le_of_ble_eq_true rfl⟩) ⟨hR_blind, hR_pre hP hK hG⟩ rfl rfl hl.1 rfl (lv_room (Nat.le_of_ble_eq_true rfl)) dC_byteAt_10 ⟨Nat.le_of_ble_eq_true rfl, Nat.le_of_ble_eq_true rfl⟩) (fun r9 hr9 => ?_)
  refine W.eq (g2 := F0 m 13 ls [.int (C_shiftOf a1), .long (xL σ 20 j0 ((a1 / 8)).toNatClampNeg)]) (by rw [hr9]) ?_
  refine lv_lushr (pc := 13) hx hb dC_byteAt_13 rfl ?_
  refine lv_l2i (pc := 14) hx hb dC_byteAt_14 rfl ?_
  refine lv_sipush (pc := 15) (v := 255) hx hb dC_byteAt_15 (by decide) ?_
  refine lv_iand (pc := 18) hx hb dC_byteAt_18 ?_
  exact W.iret (pc := 19) hx hb hr (fun t ht hW => ⟨_, rfl, (Option.some.inj hf), ht.trans hH⟩) (fun q h => nomatch h) dC_byteAt_19
def C_setByte (σ : hT) (j0 : Nat) (a1 : Int32) (a2 : Int32) : Option (Unit × hT) := if in9 (a1 / 8) 8 then if in9 (a1 / 8) 8 then lt9 (sL σ 20 j0 ((a1 / 8)).toNatClampNeg (((xL σ 20 j0 ((a1 / 8)).toNatClampNeg) &&& ((255 <<< ((C_shiftOf a1).toInt64 &&& 63)) ^^^ (-1))) ||| ((a2).toInt64 <<< ((C_shiftOf a1).toInt64 &&& 63)))) fun σ5 => some ((), σ5) else none else none
set_option maxHeartbeats 4000000 in
set_option maxRecDepth 100000 in
theorem t_C_setByte (l : Launch) (dC : Nat → ClassId) (dI : Nat → Nat → Nat) (ad : Nat → Nat → Nat) (ca : Nat → Nat → ClassId) (dom : List (Nat × Nat)) (sz : Nat) (σ : hT) (j0 : Nat) (a1 : Int32) (a2 : Int32) (hm0 : (5, j0) ∈ dom) (hN : dom.Nodup) (hC : clo dom σ.2.2) (ρ : Unit) (σ' : hT) (hf : C_setByte σ j0 a1 a2 = some (ρ, σ')) : Met l yC_setByte (.code yC_setByte cC_setByte 5 none :: aw) ({ frames := 1, cells := 0, slots := 0, locals := 20 }) (hW (dC, dI) sz ad ca dom σ [.ref (ad 5 j0), .int a1, .int a2]) (va_Qv (fun (_ : Unit) => True) (fun _ t => hB (dC, dI) (va_A (w9 ad ca dom σ) sz) ad ca dom σ' t) (va_A (w9 ad ca dom σ) sz)) 0 0 (va_A (w9 ad ca dom σ) sz) := by
  refine Met.ofW (cc := cC_setByte) (maxL := 5) (ret := none) (by decide) rfl ?_
  intro p e s m args below meth c s₁ B hml hv
  obtain ⟨rfl, hv⟩ := hv
  have hx := B.exec
  have hb := B.bytes
  have hr := B.returns
  have hts : ∀ w ∈ aw, w.before _ s = true := fun w h => atoms_spec (ws := (.code yC_setByte cC_setByte 5 none :: aw)) B.pre w (List.mem_cons_of_mem _ h)
  have hown : s.vm.findClass RC = some m.cls := findClass_of_methodNamed B.named
  have hlocks := B.notSynchronized
  obtain ⟨hsz, hP, hK, hD0, hG⟩ := hv
  subst hsz
  have hD := hD0.self (sz := s.heap.size)
  generalize hAe : va_A (w9 ad ca dom σ) s.heap.size = A at hD ⊢
  have hA : ∀ q : Nat, s.heap.size ≤ q → A q := fun q h => by rw [← hAe]; exact Or.inr h
  obtain ⟨H, hH⟩ : ∃ H, H = s.heap := ⟨_, rfl⟩
  have hS : va_S A s.heap H [] := by rw [hH]; exact va_S.rf
  rw [← hH] at hP ⊢
  unfold C_setByte at hf
  have hl := lv_entry ([.ref (ad 5 j0), .int a1, .int a2]) (n := 5) (Nat.le_of_ble_eq_true rfl)
  rw [lg_entry_eq]
  generalize (lg_sl ([.ref (ad 5 j0), .int a1, .int a2]) ++ List.replicate (5 - (lg_sl ([.ref (ad 5 j0), .int a1, .int a2])).length) Slot.unset).toArray = ls at hl ⊢
  have hl : lv_has ls 5 [(0, .ref (ad 5 j0)), (1, .int a1), (2, .int a2)] := hl
  refine lv_aload_n (pc := 0) hx hb dC_setByte_0 rfl (lv_at hl 0 rfl) ?_
  obtain ⟨q1, hq1, eq1⟩ := at_5 (ad := ad) (ca := ca) (σ := σ) hm0
  refine va_get (D := (dC, dI)) (cl := kCl) (C := RC) (T := TC) (N := 5) (pc := 1) hx hb hts inC hown hK.1 hP q1 eq1 rfl 0 (by decide) (hts _ wd_224) (fun _ h9 => h9) rfl dC_setByte_1 ?_
  refine lv_iload_n (pc := 4) hx hb dC_setByte_4 rfl (lv_at hl 1 rfl) ?_
  refine lv_bipush (pc := 5) (v := 8) hx hb dC_setByte_5 (by decide) ?_
  refine lv_idiv (pc := 7) hx hb dC_setByte_7 (by decide) ?_
  obtain ⟨hv2, hf⟩ := ite_s hf
  obtain ⟨q3, hq3, eq3⟩ := at_20 (ad := ad) (ca := ca) (σ := σ) (cm_5_0 hC hm0)
  refine va_lald (D := (dC, dI)) (cl := kCl) (pc := 8) hx hb (hK.2 20 j0 .long (cm_5_0 hC hm0) rfl) hP q3 0 eq3 rfl (hv2) dC_setByte_8 ?_
  refine W.eq (g2 := F0 m 9 ls [.long (xL σ 20 j0 ((a1 / 8)).toNatClampNeg)]) rfl ?_
  refine lv_ldc2 (pc := 9) (v := 255) hx hb hown (hts _ wd_229) dC_setByte_9 ?_
  refine lv_iload_n (pc := 12) hx hb dC_setByte_12 rfl (lv_at hl 1 rfl) ?_
  refine vp_callSi (pc := 13) (W.runS (As := [.int a1]) (rest := [.long 255, .long (xL σ 20 j0 ((a1 / 8)).toNatClampNeg)]) ⟨hx, hb, hml, hown, hts⟩ (t_C_shiftOf l dC dI ad ca dom a1 σ hN hC (C_shiftOf a1) rfl) (cwS 1 hts (gS wd_226 wd_227 wd_228 wd_225) rfl rfl rfl (by decide +kernel) ⟨Nat.le_of_ble_eq_true rfl, Nat.le_of_ble_eq_true rfl⟩) ⟨hR_blind, hR_pre hP hK hG⟩ rfl rfl hl.1 rfl (lv_room (Nat.le_of_ble_eq_true rfl)) dC_setByte_13 ⟨Nat.le_of_ble_eq_true rfl, Nat.le_of_ble_eq_true rfl⟩) (fun r9 hr9 => ?_)
  refine W.eq (g2 := F0 m 16 ls [.int (C_shiftOf a1), .long 255, .long (xL σ 20 j0 ((a1 / 8)).toNatClampNeg)]) (by rw [hr9]) ?_
  refine lv_lshl (pc := 16) hx hb dC_setByte_16 rfl ?_
  refine lv_ldc2 (pc := 17) (v := (-1)) hx hb hown (hts _ wd_230) dC_setByte_17 ?_
  refine lv_lxor (pc := 20) hx hb dC_setByte_20 ?_
  refine lv_land (pc := 21) hx hb dC_setByte_21 ?_
  refine lv_lstore_n (pc := 22) hx hb dC_setByte_22 rfl hl (by decide) rfl (fun ls hl => ?_)
  have hl : lv_has ls 5 [(3, .long ((xL σ 20 j0 ((a1 / 8)).toNatClampNeg) &&& ((255 <<< ((C_shiftOf a1).toInt64 &&& 63)) ^^^ (-1)))), (0, .ref (ad 5 j0)), (1, .int a1), (2, .int a2)] := hl
  refine lv_aload_n (pc := 23) hx hb dC_setByte_23 rfl (lv_at hl 1 rfl) ?_
  obtain ⟨q4, hq4, eq4⟩ := at_5 (ad := ad) (ca := ca) (σ := σ) hm0
  refine va_get (D := (dC, dI)) (cl := kCl) (C := RC) (T := TC) (N := 5) (pc := 24) hx hb hts inC hown hK.1 hP q4 eq4 rfl 0 (by decide) (hts _ wd_224) (fun _ h9 => h9) rfl dC_setByte_24 ?_
  refine lv_iload_n (pc := 27) hx hb dC_setByte_27 rfl (lv_at hl 2 rfl) ?_
  refine lv_bipush (pc := 28) (v := 8) hx hb dC_setByte_28 (by decide) ?_
  refine lv_idiv (pc := 30) hx hb dC_setByte_30 (by decide) ?_
  refine lv_lload_n (pc := 31) hx hb dC_setByte_31 rfl (lv_at hl 0 rfl) ?_
  refine lv_iload_n (pc := 32) hx hb dC_setByte_32 rfl (lv_at hl 3 rfl) ?_
  refine lv_i2l (pc := 33) hx hb dC_setByte_33 rfl ?_
  refine lv_iload_n (pc := 34) hx hb dC_setByte_34 rfl (lv_at hl 2 rfl) ?_
  refine vp_callSi (pc := 35) (W.runS (As := [.int a1]) (rest := [.long (a2).toInt64, .long ((xL σ 20 j0 ((a1 / 8)).toNatClampNeg) &&& ((255 <<< ((C_shiftOf a1).toInt64 &&& 63)) ^^^ (-1))), .int (a1 / 8), .ref (ad 20 j0)]) ⟨hx, hb, hml, hown, hts⟩ (t_C_shiftOf l dC dI ad ca dom a1 σ hN hC (C_shiftOf a1) rfl) (cwS 1 hts (gS wd_226 wd_227 wd_228 wd_225) rfl rfl rfl (by decide +kernel) ⟨Nat.le_of_ble_eq_true rfl, Nat.le_of_ble_eq_true rfl⟩) ⟨hR_blind, hR_pre hP hK hG⟩ rfl rfl hl.1 rfl (lv_room (Nat.le_of_ble_eq_true rfl)) dC_setByte_35 ⟨Nat.le_of_ble_eq_true rfl, Nat.le_of_ble_eq_true rfl⟩) (fun r9 hr9 => ?_)
  refine W.eq (g2 := F0 m 38 ls [.int (C_shiftOf a1), .long (a2).toInt64, .long ((xL σ 20 j0 ((a1 / 8)).toNatClampNeg) &&& ((255 <<< ((C_shiftOf a1).toInt64 &&& 63)) ^^^ (-1))), .int (a1 / 8), .ref (ad 20 j0)]) (by rw [hr9]) ?_
  refine lv_lshl (pc := 38) hx hb dC_setByte_38 rfl ?_
  refine lv_lor (pc := 39) hx hb dC_setByte_39 ?_
  obtain ⟨hv6, hf⟩ := ite_s hf
  obtain ⟨q7, hq7, eq7⟩ := at_20 (ad := ad) (ca := ca) (σ := σ) (cm_5_0 hC hm0)
  refine va_last (D := (dC, dI)) (cl := kCl) (pc := 40) hx hb (hK.2 20 j0 .long (cm_5_0 hC hm0) rfl) hP hD hS q7 0 eq7 rfl (hv6) dC_setByte_40 (fun H locs hP hD hS => ?_)
  obtain ⟨σ5, hσ5, hf⟩ := lt_9 hf
  obtain ⟨hP, hD⟩ := w9_rL 20 rfl hN hq7 hσ5 (pr_20) hP hD
  have hC : clo dom σ5.2.2 := by rw [hσ5]; exact hC
  obtain ⟨h8, h9⟩ := Prod.mk.inj (Option.some.inj hf)
  subst h9
  exact W.vret (pc := 41) hx hb hr (fun t ht hW => ⟨⟨(), rfl, trivial, by rw [ht]; exact hP, hD, hC⟩, hS.F ht⟩) hS.2.2 dC_setByte_41
def C_setBytes_L2 (n : Nat) (kx6 : hT → Int32 → Nat → Int32 → Option (Unit × hT)) : Nat → hT → Int32 → Nat → Int32 → Option (Unit × hT)
  | 0, _, _, _, _ => none
  | k + 1, σ1, p2, j3, p5 => if (xI σ1 601 j3 0) ≤ p2 then kx6 (σ1) p2 j3 p5 else Option.bind (C_setByte σ1 j3 p2 0) fun ⟨y11, σ12⟩ => C_setBytes_L2 n kx6 k (σ12) (p2 + 1) j3 p5
def C_setBytes (n : Nat) (σ : hT) (j0 : Nat) (a1 : Int32) : Option (Unit × hT) := lt9 (α := hT → Int32 → Nat → Int32 → Option (Unit × hT)) (fun (σ1 : hT) (p2 : Int32) (j3 : Nat) (p5 : Int32) => lt9 (sI σ1 601 j3 0 p5) fun σ13 => some ((), σ13)) fun kx6 => C_setBytes_L2 n kx6 n (σ) a1 j0 a1
set_option maxHeartbeats 4000000 in
set_option maxRecDepth 100000 in
theorem t_C_setBytes (l : Launch) (dC : Nat → ClassId) (dI : Nat → Nat → Nat) (ad : Nat → Nat → Nat) (ca : Nat → Nat → ClassId) (dom : List (Nat × Nat)) (sz : Nat) (n : Nat) (σ : hT) (j0 : Nat) (a1 : Int32) (hm0 : (5, j0) ∈ dom) (hN : dom.Nodup) (hC : clo dom σ.2.2) (ρ : Unit) (σ' : hT) (hf : C_setBytes n σ j0 a1 = some (ρ, σ')) : Met l yC_setBytes (.code yC_setBytes cC_setBytes 3 none :: aw) ({ frames := 2, cells := 0, slots := 0, locals := 44 }) (hW (dC, dI) sz ad ca dom σ [.ref (ad 5 j0), .int a1]) (va_Qv (fun (_ : Unit) => True) (fun _ t => hB (dC, dI) (va_A (w9 ad ca dom σ) sz) ad ca dom σ' t) (va_A (w9 ad ca dom σ) sz)) 0 0 (va_A (w9 ad ca dom σ) sz) := by
  refine Met.ofW (cc := cC_setBytes) (maxL := 3) (ret := none) (by decide) rfl ?_
  intro p e s m args below meth c s₁ B hml hv
  obtain ⟨rfl, hv⟩ := hv
  have hx := B.exec
  have hb := B.bytes
  have hr := B.returns
  have hts : ∀ w ∈ aw, w.before _ s = true := fun w h => atoms_spec (ws := (.code yC_setBytes cC_setBytes 3 none :: aw)) B.pre w (List.mem_cons_of_mem _ h)
  have hown : s.vm.findClass RC = some m.cls := findClass_of_methodNamed B.named
  have hlocks := B.notSynchronized
  obtain ⟨hsz, hP, hK, hD0, hG⟩ := hv
  subst hsz
  have hD := hD0.self (sz := s.heap.size)
  generalize hAe : va_A (w9 ad ca dom σ) s.heap.size = A at hD ⊢
  have hA : ∀ q : Nat, s.heap.size ≤ q → A q := fun q h => by rw [← hAe]; exact Or.inr h
  obtain ⟨H, hH⟩ : ∃ H, H = s.heap := ⟨_, rfl⟩
  have hS : va_S A s.heap H [] := by rw [hH]; exact va_S.rf
  rw [← hH] at hP ⊢
  unfold C_setBytes at hf
  have hl := lv_entry ([.ref (ad 5 j0), .int a1]) (n := 3) (Nat.le_of_ble_eq_true rfl)
  rw [lg_entry_eq]
  generalize (lg_sl ([.ref (ad 5 j0), .int a1]) ++ List.replicate (3 - (lg_sl ([.ref (ad 5 j0), .int a1])).length) Slot.unset).toArray = ls at hl ⊢
  have hl : lv_has ls 3 [(0, .ref (ad 5 j0)), (1, .int a1)] := hl
  refine lv_iload_n (pc := 0) hx hb dC_setBytes_0 rfl (lv_at hl 1 rfl) ?_
  refine lv_istore_n (pc := 1) hx hb dC_setBytes_1 rfl hl (by decide) rfl (fun ls hl => ?_)
  have hl : lv_has ls 3 [(2, .int a1), (0, .ref (ad 5 j0)), (1, .int a1)] := hl
  obtain ⟨kx6, hkx6, hf⟩ := lt_9 hf
  refine lpF (τ := (hT) × (Int32) × (Nat) × (Int32) × (Heap) × (List Loc) × (Array Slot)) (fun pc z => W p l e _ s m _ below meth c z.2.2.2.2.1 z.2.2.2.2.2.1 0 0 _ (F0 m pc z.2.2.2.2.2.2 [])) 2 22 (fun z => va_P (dC, dI) kCl (w9 ad ca dom z.1) z.2.2.2.2.1 ∧ va_D A (w9 ad ca dom z.1) ∧ va_S A s.heap z.2.2.2.2.1 z.2.2.2.2.2.1 ∧ clo dom z.1.2.2 ∧ lv_has z.2.2.2.2.2.2 3 [(2, .int z.2.1), (0, .ref (ad 5 z.2.2.1)), (1, .int z.2.2.2.1)] ∧ (5, z.2.2.1) ∈ dom) (fun k z => C_setBytes_L2 n kx6 k z.1 z.2.1 z.2.2.1 z.2.2.2.1) (fun z => kx6 z.1 z.2.1 z.2.2.1 z.2.2.2.1) _ (fun z => rfl) ?_ ?_ n (σ, a1, j0, a1, H, _, ls) ⟨hP, hD, hS, hC, hl, hm0⟩ hf
  · rintro k ⟨σ1, p2, j3, p5, H, locs, ls⟩ ⟨hP, hD, hS, hC, hl, hm4⟩ hf ih7 hXkx6
    dsimp only at hP hD hS hC hl hm4 hf ih7 hXkx6 ⊢
    unfold C_setBytes_L2 at hf
    have hl : lv_has ls 3 [(2, .int p2), (0, .ref (ad 5 j3)), (1, .int p5)] := hl
    refine lv_iload_n (pc := 2) hx hb dC_setBytes_2 rfl (lv_at hl 0 rfl) ?_
    refine lv_aload_n (pc := 3) hx hb dC_setBytes_3 rfl (lv_at hl 1 rfl) ?_
    obtain ⟨q8, hq8, eq8⟩ := at_5 (ad := ad) (ca := ca) (σ := σ1) hm4
    refine va_get (D := (dC, dI)) (cl := kCl) (C := RC) (T := TC) (N := 5) (pc := 4) hx hb hts inC hown hK.1 hP q8 eq8 rfl 1 (by decide) (hts _ wd_223) (fun _ h9 => h9) rfl dC_setBytes_4 ?_
    refine lv_icmp_ge (pc := 7) (tgt := 22) hx hb dC_setBytes_7 rfl (fun h9 => ?_) (fun h9 => ?_)
    · replace hf := ite_t h9 hf
      have hl := lv_sub hl (l' := [(2, .int p2), (0, .ref (ad 5 j3)), (1, .int p5)]) [0, 1, 2] rfl
      exact hXkx6 (σ1, p2, j3, p5, H, _, ls) ⟨hP, hD, hS, hC, hl, hm4⟩ hf
    · replace hf := ite_f h9 hf
      refine lv_aload_n (pc := 10) hx hb dC_setBytes_10 rfl (lv_at hl 1 rfl) ?_
      refine lv_iload_n (pc := 11) hx hb dC_setBytes_11 rfl (lv_at hl 0 rfl) ?_
      refine lv_iconst (pc := 12) (v := 0) hx hb dC_setBytes_12 (by decide) ?_
      obtain ⟨q10, hq10, eq10⟩ := at_5 (ad := ad) (ca := ca) (σ := σ1) hm4
      obtain ⟨⟨y11, σ12⟩, hy11, hf⟩ := ob hf
      have hFc := w9_free hD hS hA
      refine va_callv (pc := 13) (va_runV (As := [.int p2, .int 0]) (rest := []) ⟨hx, hb, hml, hown, hts⟩ (t_C_setByte l dC dI ad ca dom H.size σ1 j3 p2 0 hm4 hN hC y11 σ12 hy11) (cwV 2 hts (gV wd_232 wd_233 wd_234 wd_228 wd_231) rfl rfl rfl (by decide +kernel) ⟨Nat.le_of_ble_eq_true rfl, Nat.le_of_ble_eq_true rfl⟩) ⟨hW_blind, va_recv (q := (RC, TC, 5)) (q0 := q10) (ci := 5) hK.1 hP rfl eq10, hW_pre hP hK hD hG⟩ rfl rfl hl.1 rfl (lv_room (Nat.le_of_ble_eq_true rfl)) dC_setBytes_13 ⟨Nat.le_of_ble_eq_true rfl, Nat.le_of_ble_eq_true rfl⟩) hS (fun q _ h => hFc q h) hFc (fun u t H1 locs ht hvm hr9 hB hz1 hk1 hS => ?_)
      obtain ⟨hP, hD, hC⟩ := hB
      rw [ht] at hP
      replace hD := hD.weaken (fun _ _ _ h => hFc _ h)
      generalize H1 = H at hP hS ⊢
      refine lv_iinc (pc := 16) (v := (p2 + 1)) hx hb dC_setBytes_16 hl (k := 0) rfl (by rfl) (by decide) rfl (fun ls hl => ?_)
      have hl : lv_has ls 3 [(2, .int (p2 + 1)), (0, .ref (ad 5 j3)), (1, .int p5)] := hl
      refine lv_goto (pc := 19) (tgt := 2) hx hb dC_setBytes_19 rfl ?_
      have hl := lv_sub hl (l' := [(2, .int (p2 + 1)), (0, .ref (ad 5 j3)), (1, .int p5)]) [0, 1, 2] rfl
      exact ih7 (σ12, (p2 + 1), j3, p5, H, _, ls) ⟨hP, hD, hS, hC, hl, hm4⟩ hf
  · rintro ⟨σ1, p2, j3, p5, H, locs, ls⟩ ⟨hP, hD, hS, hC, hl, hm4⟩ hf
    dsimp only at hP hD hS hC hl hm4 hf ⊢
    rw [hkx6] at hf
    have hl : lv_has ls 3 [(2, .int p2), (0, .ref (ad 5 j3)), (1, .int p5)] := hl
    refine lv_aload_n (pc := 22) hx hb dC_setBytes_22 rfl (lv_at hl 1 rfl) ?_
    refine lv_iload_n (pc := 23) hx hb dC_setBytes_23 rfl (lv_at hl 2 rfl) ?_
    obtain ⟨q14, hq14, eq14⟩ := at_5 (ad := ad) (ca := ca) (σ := σ1) hm4
    refine va_put (D := (dC, dI)) (cl := kCl) (ci := 5) (v := .int p5) (ty := .int) (C := RC) (T := TC) (N := 5) (pc := 24) hx hb hts inC tyC tyC_ok nmC hown hK.1 hP hD hS q14 eq14 rfl 1 (by decide) (hts _ wd_223) (fun _ h9 => h9) rfl (by decide +kernel) (rfl) (rfl) (Nat.le_of_ble_eq_true rfl) dC_setBytes_24 (fun H locs hP hD hS => ?_)
    obtain ⟨σ13, hσ13, hf⟩ := lt_9 hf
    obtain ⟨hP, hD⟩ := w9_rI 601 rfl hN hq14 hσ13 (pu_601) hP hD
    have hC : clo dom σ13.2.2 := by rw [hσ13]; exact hC
    obtain ⟨h8, h9⟩ := Prod.mk.inj (Option.some.inj hf)
    subst h9
    exact W.vret (pc := 27) hx hb hr (fun t ht hW => ⟨⟨(), rfl, trivial, by rw [ht]; exact hP, hD, hC⟩, hS.F ht⟩) hS.2.2 dC_setBytes_27
def C_pieceCount (σ : hT) (j0 : Nat) : Int32 := ((((xI σ 601 j0 0) + 8) - 1) / 8)
set_option maxHeartbeats 4000000 in
set_option maxRecDepth 100000 in
theorem t_C_pieceCount (l : Launch) (dC : Nat → ClassId) (dI : Nat → Nat → Nat) (ad : Nat → Nat → Nat) (ca : Nat → Nat → ClassId) (dom : List (Nat × Nat)) (σ : hT) (j0 : Nat) (hm0 : (5, j0) ∈ dom) (hN : dom.Nodup) (hC : clo dom σ.2.2) (ρ : Int32) (hf : C_pieceCount σ j0 = ρ) : Met l yC_pieceCount (.code yC_pieceCount cC_pieceCount 1 (some .int) :: aw) ({ frames := 0, cells := 0, slots := 0, locals := 0 }) (hR (dC, dI) ad ca dom σ [.ref (ad 5 j0)]) (vp_Si (fun r => r = ρ)) 0 0 (fun _ => False) := by
  refine Met.ofW (cc := cC_pieceCount) (maxL := 1) (ret := (some .int)) (by decide) rfl ?_
  intro p e s m args below meth c s₁ B hml hv
  obtain ⟨rfl, hv⟩ := hv
  have hx := B.exec
  have hb := B.bytes
  have hr := B.returns
  have hts : ∀ w ∈ aw, w.before _ s = true := fun w h => atoms_spec (ws := (.code yC_pieceCount cC_pieceCount 1 (some .int) :: aw)) B.pre w (List.mem_cons_of_mem _ h)
  have hown : s.vm.findClass RC = some m.cls := findClass_of_methodNamed B.named
  have hlocks := B.notSynchronized
  obtain ⟨hP, hK, hG⟩ := hv
  obtain ⟨H, hH⟩ : ∃ H, H = s.heap := ⟨_, rfl⟩
  rw [← hH] at hP ⊢
  unfold C_pieceCount at hf
  have hl := lv_entry ([.ref (ad 5 j0)]) (n := 1) (Nat.le_of_ble_eq_true rfl)
  rw [lg_entry_eq]
  generalize (lg_sl ([.ref (ad 5 j0)]) ++ List.replicate (1 - (lg_sl ([.ref (ad 5 j0)])).length) Slot.unset).toArray = ls at hl ⊢
  have hl : lv_has ls 1 [(0, .ref (ad 5 j0))] := hl
  refine lv_aload_n (pc := 0) hx hb dC_pieceCount_0 rfl (lv_at hl 0 rfl) ?_
  obtain ⟨q1, hq1, eq1⟩ := at_5 (ad := ad) (ca := ca) (σ := σ) hm0
  refine va_get (D := (dC, dI)) (cl := kCl) (C := RC) (T := TC) (N := 5) (pc := 1) hx hb hts inC hown hK.1 hP q1 eq1 rfl 1 (by decide) (hts _ wd_223) (fun _ h9 => h9) rfl dC_pieceCount_1 ?_
  refine lv_bipush (pc := 4) (v := 8) hx hb dC_pieceCount_4 (by decide) ?_
  refine lv_iadd (pc := 6) hx hb dC_pieceCount_6 ?_
  refine lv_iconst (pc := 7) (v := 1) hx hb dC_pieceCount_7 (by decide) ?_
  refine lv_isub (pc := 8) hx hb dC_pieceCount_8 ?_
  refine lv_bipush (pc := 9) (v := 8) hx hb dC_pieceCount_9 (by decide) ?_
  refine lv_idiv (pc := 11) hx hb dC_pieceCount_11 (by decide) ?_
  exact W.iret (pc := 12) hx hb hr (fun t ht hW => ⟨_, rfl, hf, ht.trans hH⟩) (fun q h => nomatch h) dC_pieceCount_12
def C_pieceLength (σ : hT) (j0 : Nat) (a1 : Int32) : Int32 := (if 0 < (if ((xI σ 601 j0 0) - (a1 * 8)) < 8 then ((xI σ 601 j0 0) - (a1 * 8)) else 8) then (if ((xI σ 601 j0 0) - (a1 * 8)) < 8 then ((xI σ 601 j0 0) - (a1 * 8)) else 8) else 0)
set_option maxHeartbeats 4000000 in
set_option maxRecDepth 100000 in
theorem t_C_pieceLength (l : Launch) (dC : Nat → ClassId) (dI : Nat → Nat → Nat) (ad : Nat → Nat → Nat) (ca : Nat → Nat → ClassId) (dom : List (Nat × Nat)) (σ : hT) (j0 : Nat) (a1 : Int32) (hm0 : (5, j0) ∈ dom) (hN : dom.Nodup) (hC : clo dom σ.2.2) (ρ : Int32) (hf : C_pieceLength σ j0 a1 = ρ) : Met l yC_pieceLength (.code yC_pieceLength cC_pieceLength 2 (some .int) :: aw) ({ frames := 1, cells := 0, slots := 0, locals := 15 }) (hR (dC, dI) ad ca dom σ [.ref (ad 5 j0), .int a1]) (vp_Si (fun r => r = ρ)) 0 0 (fun _ => False) := by
  refine Met.ofW (cc := cC_pieceLength) (maxL := 2) (ret := (some .int)) (by decide) rfl ?_
  intro p e s m args below meth c s₁ B hml hv
  obtain ⟨rfl, hv⟩ := hv
  have hx := B.exec
  have hb := B.bytes
  have hr := B.returns
  have hts : ∀ w ∈ aw, w.before _ s = true := fun w h => atoms_spec (ws := (.code yC_pieceLength cC_pieceLength 2 (some .int) :: aw)) B.pre w (List.mem_cons_of_mem _ h)
  have hown : s.vm.findClass RC = some m.cls := findClass_of_methodNamed B.named
  have hlocks := B.notSynchronized
  obtain ⟨hP, hK, hG⟩ := hv
  obtain ⟨H, hH⟩ : ∃ H, H = s.heap := ⟨_, rfl⟩
  rw [← hH] at hP ⊢
  unfold C_pieceLength at hf
  have hl := lv_entry ([.ref (ad 5 j0), .int a1]) (n := 2) (Nat.le_of_ble_eq_true rfl)
  rw [lg_entry_eq]
  generalize (lg_sl ([.ref (ad 5 j0), .int a1]) ++ List.replicate (2 - (lg_sl ([.ref (ad 5 j0), .int a1])).length) Slot.unset).toArray = ls at hl ⊢
  have hl : lv_has ls 2 [(0, .ref (ad 5 j0)), (1, .int a1)] := hl
  refine lv_iconst (pc := 0) (v := 0) hx hb dC_pieceLength_0 (by decide) ?_
  refine lv_bipush (pc := 1) (v := 8) hx hb dC_pieceLength_1 (by decide) ?_
  refine lv_aload_n (pc := 3) hx hb dC_pieceLength_3 rfl (lv_at hl 0 rfl) ?_
  obtain ⟨q1, hq1, eq1⟩ := at_5 (ad := ad) (ca := ca) (σ := σ) hm0
  refine va_get (D := (dC, dI)) (cl := kCl) (C := RC) (T := TC) (N := 5) (pc := 4) hx hb hts inC hown hK.1 hP q1 eq1 rfl 1 (by decide) (hts _ wd_223) (fun _ h9 => h9) rfl dC_pieceLength_4 ?_
  refine lv_iload_n (pc := 7) hx hb dC_pieceLength_7 rfl (lv_at hl 1 rfl) ?_
  refine lv_bipush (pc := 8) (v := 8) hx hb dC_pieceLength_8 (by decide) ?_
  refine lv_imul (pc := 10) hx hb dC_pieceLength_10 ?_
  refine lv_isub (pc := 11) hx hb dC_pieceLength_11 ?_
  refine va_mmin (pc := 12) hx hb (hml.trans hl.1.symm) hown (hts _ wd_235) (hts _ wd_236) (hts _ wd_237) (hts _ wd_238) (Nat.le_of_ble_eq_true rfl) (Nat.le_of_ble_eq_true rfl) (Nat.le_of_ble_eq_true rfl) (Nat.le_of_ble_eq_true rfl) dC_pieceLength_12 ?_
  refine va_mmax (pc := 15) hx hb (hml.trans hl.1.symm) hown (hts _ wd_239) (hts _ wd_240) (hts _ wd_237) (hts _ wd_241) (Nat.le_of_ble_eq_true rfl) (Nat.le_of_ble_eq_true rfl) (Nat.le_of_ble_eq_true rfl) (Nat.le_of_ble_eq_true rfl) dC_pieceLength_15 ?_
  exact W.iret (pc := 18) hx hb hr (fun t ht hW => ⟨_, rfl, hf, ht.trans hH⟩) (fun q h => nomatch h) dC_pieceLength_18
def C_samePiece (σ : hT) (j0 : Nat) (j1 : Nat) (a2 : Int32) : Option (Int32) := if (C_pieceLength σ j0 a2) = (C_pieceLength σ j1 a2) then if in9 a2 8 then if in9 a2 8 then if (lg_cmp (xL σ 20 j0 (a2).toNatClampNeg) (xL σ 20 j1 (a2).toNatClampNeg)) = 0 then some 1 else some 0 else none else none else some 0
set_option maxHeartbeats 4000000 in
set_option maxRecDepth 100000 in
theorem t_C_samePiece (l : Launch) (dC : Nat → ClassId) (dI : Nat → Nat → Nat) (ad : Nat → Nat → Nat) (ca : Nat → Nat → ClassId) (dom : List (Nat × Nat)) (σ : hT) (j0 : Nat) (j1 : Nat) (a2 : Int32) (hm0 : (5, j0) ∈ dom) (hm1 : (5, j1) ∈ dom) (hN : dom.Nodup) (hC : clo dom σ.2.2) (ρ : Int32) (hf : C_samePiece σ j0 j1 a2 = some ρ) : Met l yC_samePiece (.code yC_samePiece cC_samePiece 3 (some .boolean) :: aw) ({ frames := 2, cells := 0, slots := 0, locals := 36 }) (hR (dC, dI) ad ca dom σ [.ref (ad 5 j0), .ref (ad 5 j1), .int a2]) (vp_Si (fun r => r = ρ)) 0 0 (fun _ => False) := by
  refine Met.ofW (cc := cC_samePiece) (maxL := 3) (ret := (some .boolean)) (by decide) rfl ?_
  intro p e s m args below meth c s₁ B hml hv
  obtain ⟨rfl, hv⟩ := hv
  have hx := B.exec
  have hb := B.bytes
  have hr := B.returns
  have hts : ∀ w ∈ aw, w.before _ s = true := fun w h => atoms_spec (ws := (.code yC_samePiece cC_samePiece 3 (some .boolean) :: aw)) B.pre w (List.mem_cons_of_mem _ h)
  have hown : s.vm.findClass RC = some m.cls := findClass_of_methodNamed B.named
  have hlocks := B.notSynchronized
  obtain ⟨hP, hK, hG⟩ := hv
  obtain ⟨H, hH⟩ : ∃ H, H = s.heap := ⟨_, rfl⟩
  rw [← hH] at hP ⊢
  unfold C_samePiece at hf
  have hl := lv_entry ([.ref (ad 5 j0), .ref (ad 5 j1), .int a2]) (n := 3) (Nat.le_of_ble_eq_true rfl)
  rw [lg_entry_eq]
  generalize (lg_sl ([.ref (ad 5 j0), .ref (ad 5 j1), .int a2]) ++ List.replicate (3 - (lg_sl ([.ref (ad 5 j0), .ref (ad 5 j1), .int a2])).length) Slot.unset).toArray = ls at hl ⊢
  have hl : lv_has ls 3 [(0, .ref (ad 5 j0)), (1, .ref (ad 5 j1)), (2, .int a2)] := hl
  refine lv_aload_n (pc := 0) hx hb dC_samePiece_0 rfl (lv_at hl 0 rfl) ?_
  refine lv_iload_n (pc := 1) hx hb dC_samePiece_1 rfl (lv_at hl 2 rfl) ?_
  obtain ⟨q1, hq1, eq1⟩ := at_5 (ad := ad) (ca := ca) (σ := σ) hm0
  refine vp_callSi (pc := 2) (W.runV (As := [.int a2]) (rest := []) ⟨hx, hb, hml, hown, hts⟩ (t_C_pieceLength l dC dI ad ca dom σ j0 a2 hm0 hN hC (C_pieceLength σ j0 a2) rfl) (cwV 1 hts (gV wd_243 wd_244 wd_245 wd_228 wd_242) rfl rfl rfl (by decide +kernel) ⟨Nat.le_of_ble_eq_true rfl, Nat.le_of_ble_eq_true rfl⟩) ⟨hR_blind, va_recv (q := (RC, TC, 5)) (q0 := q1) (ci := 5) hK.1 hP rfl eq1, hR_pre hP hK hG⟩ rfl rfl hl.1 rfl (lv_room (Nat.le_of_ble_eq_true rfl)) dC_samePiece_2 ⟨Nat.le_of_ble_eq_true rfl, Nat.le_of_ble_eq_true rfl⟩) (fun r9 hr9 => ?_)
  refine W.eq (g2 := F0 m 5 ls [.int (C_pieceLength σ j0 a2)]) (by rw [hr9]) ?_
  refine lv_aload_n (pc := 5) hx hb dC_samePiece_5 rfl (lv_at hl 1 rfl) ?_
  refine lv_iload_n (pc := 6) hx hb dC_samePiece_6 rfl (lv_at hl 2 rfl) ?_
  obtain ⟨q2, hq2, eq2⟩ := at_5 (ad := ad) (ca := ca) (σ := σ) hm1
  refine vp_callSi (pc := 7) (W.runV (As := [.int a2]) (rest := [.int (C_pieceLength σ j0 a2)]) ⟨hx, hb, hml, hown, hts⟩ (t_C_pieceLength l dC dI ad ca dom σ j1 a2 hm1 hN hC (C_pieceLength σ j1 a2) rfl) (cwV 1 hts (gV wd_243 wd_244 wd_245 wd_228 wd_242) rfl rfl rfl (by decide +kernel) ⟨Nat.le_of_ble_eq_true rfl, Nat.le_of_ble_eq_true rfl⟩) ⟨hR_blind, va_recv (q := (RC, TC, 5)) (q0 := q2) (ci := 5) hK.1 hP rfl eq2, hR_pre hP hK hG⟩ rfl rfl hl.1 rfl (lv_room (Nat.le_of_ble_eq_true rfl)) dC_samePiece_7 ⟨Nat.le_of_ble_eq_true rfl, Nat.le_of_ble_eq_true rfl⟩) (fun r9 hr9 => ?_)
  refine W.eq (g2 := F0 m 10 ls [.int (C_pieceLength σ j1 a2), .int (C_pieceLength σ j0 a2)]) (by rw [hr9]) ?_
  refine lv_icmp_ne (pc := 10) (tgt := 33) hx hb dC_samePiece_10 rfl (fun h3 => ?_) (fun h3 => ?_)
  · replace hf := ite_f h3 hf
    refine lv_iconst (pc := 33) (v := 0) hx hb dC_samePiece_33 (by decide) ?_
    exact W.zret (pc := 34) hx hb hr (rfl) (fun t ht hW => ⟨_, rfl, (Option.some.inj hf), ht.trans hH⟩) (fun q h => nomatch h) dC_samePiece_34
  · replace hf := ite_t h3 hf
    refine lv_aload_n (pc := 13) hx hb dC_samePiece_13 rfl (lv_at hl 0 rfl) ?_
    obtain ⟨q4, hq4, eq4⟩ := at_5 (ad := ad) (ca := ca) (σ := σ) hm0
    refine va_get (D := (dC, dI)) (cl := kCl) (C := RC) (T := TC) (N := 5) (pc := 14) hx hb hts inC hown hK.1 hP q4 eq4 rfl 0 (by decide) (hts _ wd_224) (fun _ h9 => h9) rfl dC_samePiece_14 ?_
    refine lv_iload_n (pc := 17) hx hb dC_samePiece_17 rfl (lv_at hl 2 rfl) ?_
    obtain ⟨hv5, hf⟩ := ite_s hf
    obtain ⟨q6, hq6, eq6⟩ := at_20 (ad := ad) (ca := ca) (σ := σ) (cm_5_0 hC hm0)
    refine va_lald (D := (dC, dI)) (cl := kCl) (pc := 18) hx hb (hK.2 20 j0 .long (cm_5_0 hC hm0) rfl) hP q6 0 eq6 rfl (hv5) dC_samePiece_18 ?_
    refine W.eq (g2 := F0 m 19 ls [.long (xL σ 20 j0 (a2).toNatClampNeg)]) rfl ?_
    refine lv_aload_n (pc := 19) hx hb dC_samePiece_19 rfl (lv_at hl 1 rfl) ?_
    obtain ⟨q7, hq7, eq7⟩ := at_5 (ad := ad) (ca := ca) (σ := σ) hm1
    refine va_get (D := (dC, dI)) (cl := kCl) (C := RC) (T := TC) (N := 5) (pc := 20) hx hb hts inC hown hK.1 hP q7 eq7 rfl 0 (by decide) (hts _ wd_224) (fun _ h9 => h9) rfl dC_samePiece_20 ?_
    refine lv_iload_n (pc := 23) hx hb dC_samePiece_23 rfl (lv_at hl 2 rfl) ?_
    obtain ⟨hv8, hf⟩ := ite_s hf
    obtain ⟨q9, hq9, eq9⟩ := at_20 (ad := ad) (ca := ca) (σ := σ) (cm_5_0 hC hm1)
    refine va_lald (D := (dC, dI)) (cl := kCl) (pc := 24) hx hb (hK.2 20 j1 .long (cm_5_0 hC hm1) rfl) hP q9 0 eq9 rfl (hv8) dC_samePiece_24 ?_
    refine W.eq (g2 := F0 m 25 ls [.long (xL σ 20 j1 (a2).toNatClampNeg), .long (xL σ 20 j0 (a2).toNatClampNeg)]) rfl ?_
    refine W.lcmp (pc := 25) hx hb dC_samePiece_25 ?_
    refine lv_if_ne (pc := 26) (tgt := 33) hx hb dC_samePiece_26 rfl (fun h10 => ?_) (fun h10 => ?_)
    · replace hf := ite_f h10 hf
      refine lv_iconst (pc := 33) (v := 0) hx hb dC_samePiece_33 (by decide) ?_
      exact W.zret (pc := 34) hx hb hr (rfl) (fun t ht hW => ⟨_, rfl, (Option.some.inj hf), ht.trans hH⟩) (fun q h => nomatch h) dC_samePiece_34
    · replace hf := ite_t h10 hf
      refine lv_iconst (pc := 29) (v := 1) hx hb dC_samePiece_29 (by decide) ?_
      refine lv_goto (pc := 30) (tgt := 34) hx hb dC_samePiece_30 rfl ?_
      exact W.zret (pc := 34) hx hb hr (rfl) (fun t ht hW => ⟨_, rfl, (Option.some.inj hf), ht.trans hH⟩) (fun q h => nomatch h) dC_samePiece_34
def C_hasReference (σ : hT) (j0 : Nat) (a1 : Int32) : Int32 := if a1 < 0 then 0 else if (xI σ 604 j0 0) ≤ a1 then 0 else 1
set_option maxHeartbeats 4000000 in
set_option maxRecDepth 100000 in
theorem t_C_hasReference (l : Launch) (dC : Nat → ClassId) (dI : Nat → Nat → Nat) (ad : Nat → Nat → Nat) (ca : Nat → Nat → ClassId) (dom : List (Nat × Nat)) (σ : hT) (j0 : Nat) (a1 : Int32) (hm0 : (5, j0) ∈ dom) (hN : dom.Nodup) (hC : clo dom σ.2.2) (ρ : Int32) (hf : C_hasReference σ j0 a1 = ρ) : Met l yC_hasReference (.code yC_hasReference cC_hasReference 2 (some .boolean) :: aw) ({ frames := 0, cells := 0, slots := 0, locals := 0 }) (hR (dC, dI) ad ca dom σ [.ref (ad 5 j0), .int a1]) (vp_Si (fun r => r = ρ)) 0 0 (fun _ => False) := by
  refine Met.ofW (cc := cC_hasReference) (maxL := 2) (ret := (some .boolean)) (by decide) rfl ?_
  intro p e s m args below meth c s₁ B hml hv
  obtain ⟨rfl, hv⟩ := hv
  have hx := B.exec
  have hb := B.bytes
  have hr := B.returns
  have hts : ∀ w ∈ aw, w.before _ s = true := fun w h => atoms_spec (ws := (.code yC_hasReference cC_hasReference 2 (some .boolean) :: aw)) B.pre w (List.mem_cons_of_mem _ h)
  have hown : s.vm.findClass RC = some m.cls := findClass_of_methodNamed B.named
  have hlocks := B.notSynchronized
  obtain ⟨hP, hK, hG⟩ := hv
  obtain ⟨H, hH⟩ : ∃ H, H = s.heap := ⟨_, rfl⟩
  rw [← hH] at hP ⊢
  unfold C_hasReference at hf
  have hl := lv_entry ([.ref (ad 5 j0), .int a1]) (n := 2) (Nat.le_of_ble_eq_true rfl)
  rw [lg_entry_eq]
  generalize (lg_sl ([.ref (ad 5 j0), .int a1]) ++ List.replicate (2 - (lg_sl ([.ref (ad 5 j0), .int a1])).length) Slot.unset).toArray = ls at hl ⊢
  have hl : lv_has ls 2 [(0, .ref (ad 5 j0)), (1, .int a1)] := hl
  refine lv_iload_n (pc := 0) hx hb dC_hasReference_0 rfl (lv_at hl 1 rfl) ?_
  refine lv_if_lt (pc := 1) (tgt := 16) hx hb dC_hasReference_1 rfl (fun h1 => ?_) (fun h1 => ?_)
  · replace hf := ite_t h1 hf
    refine lv_iconst (pc := 16) (v := 0) hx hb dC_hasReference_16 (by decide) ?_
    exact W.zret (pc := 17) hx hb hr (rfl) (fun t ht hW => ⟨_, rfl, hf, ht.trans hH⟩) (fun q h => nomatch h) dC_hasReference_17
  · replace hf := ite_f h1 hf
    refine lv_iload_n (pc := 4) hx hb dC_hasReference_4 rfl (lv_at hl 1 rfl) ?_
    refine lv_aload_n (pc := 5) hx hb dC_hasReference_5 rfl (lv_at hl 0 rfl) ?_
    obtain ⟨q2, hq2, eq2⟩ := at_5 (ad := ad) (ca := ca) (σ := σ) hm0
    refine va_get (D := (dC, dI)) (cl := kCl) (C := RC) (T := TC) (N := 5) (pc := 6) hx hb hts inC hown hK.1 hP q2 eq2 rfl 4 (by decide) (hts _ wd_246) (fun _ h9 => h9) rfl dC_hasReference_6 ?_
    refine lv_icmp_ge (pc := 9) (tgt := 16) hx hb dC_hasReference_9 rfl (fun h3 => ?_) (fun h3 => ?_)
    · replace hf := ite_t h3 hf
      refine lv_iconst (pc := 16) (v := 0) hx hb dC_hasReference_16 (by decide) ?_
      exact W.zret (pc := 17) hx hb hr (rfl) (fun t ht hW => ⟨_, rfl, hf, ht.trans hH⟩) (fun q h => nomatch h) dC_hasReference_17
    · replace hf := ite_f h3 hf
      refine lv_iconst (pc := 12) (v := 1) hx hb dC_hasReference_12 (by decide) ?_
      refine lv_goto (pc := 13) (tgt := 17) hx hb dC_hasReference_13 rfl ?_
      exact W.zret (pc := 17) hx hb hr (rfl) (fun t ht hW => ⟨_, rfl, hf, ht.trans hH⟩) (fun q h => nomatch h) dC_hasReference_17
def C_setReference (σ : hT) (j0 : Nat) (a1 : Int32) (a2 : Int32) (a3 : Int32) : Option (Unit × hT) := if in9 a1 6 then lt9 (sI σ 21 j0 (a1).toNatClampNeg a2) fun σ2 => if in9 a1 6 then lt9 (sI σ2 22 j0 (a1).toNatClampNeg a3) fun σ6 => lt9 (sI σ6 604 j0 0 (if (xI σ6 604 j0 0) < (a1 + 1) then (a1 + 1) else (xI σ6 604 j0 0))) fun σ10 => some ((), σ10) else none else none
set_option maxHeartbeats 4000000 in
set_option maxRecDepth 100000 in
theorem t_C_setReference (l : Launch) (dC : Nat → ClassId) (dI : Nat → Nat → Nat) (ad : Nat → Nat → Nat) (ca : Nat → Nat → ClassId) (dom : List (Nat × Nat)) (sz : Nat) (σ : hT) (j0 : Nat) (a1 : Int32) (a2 : Int32) (a3 : Int32) (hm0 : (5, j0) ∈ dom) (hN : dom.Nodup) (hC : clo dom σ.2.2) (ρ : Unit) (σ' : hT) (hf : C_setReference σ j0 a1 a2 a3 = some (ρ, σ')) : Met l yC_setReference (.code yC_setReference cC_setReference 4 none :: aw) ({ frames := 1, cells := 0, slots := 0, locals := 15 }) (hW (dC, dI) sz ad ca dom σ [.ref (ad 5 j0), .int a1, .int a2, .int a3]) (va_Qv (fun (_ : Unit) => True) (fun _ t => hB (dC, dI) (va_A (w9 ad ca dom σ) sz) ad ca dom σ' t) (va_A (w9 ad ca dom σ) sz)) 0 0 (va_A (w9 ad ca dom σ) sz) := by
  refine Met.ofW (cc := cC_setReference) (maxL := 4) (ret := none) (by decide) rfl ?_
  intro p e s m args below meth c s₁ B hml hv
  obtain ⟨rfl, hv⟩ := hv
  have hx := B.exec
  have hb := B.bytes
  have hr := B.returns
  have hts : ∀ w ∈ aw, w.before _ s = true := fun w h => atoms_spec (ws := (.code yC_setReference cC_setReference 4 none :: aw)) B.pre w (List.mem_cons_of_mem _ h)
  have hown : s.vm.findClass RC = some m.cls := findClass_of_methodNamed B.named
  have hlocks := B.notSynchronized
  obtain ⟨hsz, hP, hK, hD0, hG⟩ := hv
  subst hsz
  have hD := hD0.self (sz := s.heap.size)
  generalize hAe : va_A (w9 ad ca dom σ) s.heap.size = A at hD ⊢
  have hA : ∀ q : Nat, s.heap.size ≤ q → A q := fun q h => by rw [← hAe]; exact Or.inr h
  obtain ⟨H, hH⟩ : ∃ H, H = s.heap := ⟨_, rfl⟩
  have hS : va_S A s.heap H [] := by rw [hH]; exact va_S.rf
  rw [← hH] at hP ⊢
  unfold C_setReference at hf
  have hl := lv_entry ([.ref (ad 5 j0), .int a1, .int a2, .int a3]) (n := 4) (Nat.le_of_ble_eq_true rfl)
  rw [lg_entry_eq]
  generalize (lg_sl ([.ref (ad 5 j0), .int a1, .int a2, .int a3]) ++ List.replicate (4 - (lg_sl ([.ref (ad 5 j0), .int a1, .int a2, .int a3])).length) Slot.unset).toArray = ls at hl ⊢
  have hl : lv_has ls 4 [(0, .ref (ad 5 j0)), (1, .int a1), (2, .int a2), (3, .int a3)] := hl
  refine lv_aload_n (pc := 0) hx hb dC_setReference_0 rfl (lv_at hl 0 rfl) ?_
  obtain ⟨q1, hq1, eq1⟩ := at_5 (ad := ad) (ca := ca) (σ := σ) hm0
  refine va_get (D := (dC, dI)) (cl := kCl) (C := RC) (T := TC) (N := 5) (pc := 1) hx hb hts inC hown hK.1 hP q1 eq1 rfl 2 (by decide) (hts _ wd_247) (fun _ h9 => h9) rfl dC_setReference_1 ?_
  refine lv_iload_n (pc := 4) hx hb dC_setReference_4 rfl (lv_at hl 1 rfl) ?_
  refine lv_iload_n (pc := 5) hx hb dC_setReference_5 rfl (lv_at hl 2 rfl) ?_
  obtain ⟨hv3, hf⟩ := ite_s hf
  obtain ⟨q4, hq4, eq4⟩ := at_21 (ad := ad) (ca := ca) (σ := σ) (cm_5_2 hC hm0)
  refine va_iast (D := (dC, dI)) (cl := kCl) (pc := 6) hx hb (hK.2 21 j0 .int (cm_5_2 hC hm0) rfl) hP hD hS q4 0 eq4 rfl (hv3) dC_setReference_6 (fun H locs hP hD hS => ?_)
  obtain ⟨σ2, hσ2, hf⟩ := lt_9 hf
  obtain ⟨hP, hD⟩ := w9_rI 21 rfl hN hq4 hσ2 (pr_21) hP hD
  have hC : clo dom σ2.2.2 := by rw [hσ2]; exact hC
  refine lv_aload_n (pc := 7) hx hb dC_setReference_7 rfl (lv_at hl 0 rfl) ?_
  obtain ⟨q5, hq5, eq5⟩ := at_5 (ad := ad) (ca := ca) (σ := σ2) hm0
  refine va_get (D := (dC, dI)) (cl := kCl) (C := RC) (T := TC) (N := 5) (pc := 8) hx hb hts inC hown hK.1 hP q5 eq5 rfl 3 (by decide) (hts _ wd_248) (fun _ h9 => h9) rfl dC_setReference_8 ?_
  refine lv_iload_n (pc := 11) hx hb dC_setReference_11 rfl (lv_at hl 1 rfl) ?_
  refine lv_iload_n (pc := 12) hx hb dC_setReference_12 rfl (lv_at hl 3 rfl) ?_
  obtain ⟨hv7, hf⟩ := ite_s hf
  obtain ⟨q8, hq8, eq8⟩ := at_22 (ad := ad) (ca := ca) (σ := σ2) (cm_5_3 hC hm0)
  refine va_iast (D := (dC, dI)) (cl := kCl) (pc := 13) hx hb (hK.2 22 j0 .int (cm_5_3 hC hm0) rfl) hP hD hS q8 0 eq8 rfl (hv7) dC_setReference_13 (fun H locs hP hD hS => ?_)
  obtain ⟨σ6, hσ6, hf⟩ := lt_9 hf
  obtain ⟨hP, hD⟩ := w9_rI 22 rfl hN hq8 hσ6 (pr_22) hP hD
  have hC : clo dom σ6.2.2 := by rw [hσ6]; exact hC
  refine lv_aload_n (pc := 14) hx hb dC_setReference_14 rfl (lv_at hl 0 rfl) ?_
  refine lv_aload_n (pc := 15) hx hb dC_setReference_15 rfl (lv_at hl 0 rfl) ?_
  obtain ⟨q9, hq9, eq9⟩ := at_5 (ad := ad) (ca := ca) (σ := σ6) hm0
  refine va_get (D := (dC, dI)) (cl := kCl) (C := RC) (T := TC) (N := 5) (pc := 16) hx hb hts inC hown hK.1 hP q9 eq9 rfl 4 (by decide) (hts _ wd_246) (fun _ h9 => h9) rfl dC_setReference_16 ?_
  refine lv_iload_n (pc := 19) hx hb dC_setReference_19 rfl (lv_at hl 1 rfl) ?_
  refine lv_iconst (pc := 20) (v := 1) hx hb dC_setReference_20 (by decide) ?_
  refine lv_iadd (pc := 21) hx hb dC_setReference_21 ?_
  refine va_mmax (pc := 22) hx hb (hml.trans hl.1.symm) hown (hts _ wd_239) (hts _ wd_240) (hts _ wd_237) (hts _ wd_241) (Nat.le_of_ble_eq_true rfl) (Nat.le_of_ble_eq_true rfl) (Nat.le_of_ble_eq_true rfl) (Nat.le_of_ble_eq_true rfl) dC_setReference_22 ?_
  obtain ⟨q11, hq11, eq11⟩ := at_5 (ad := ad) (ca := ca) (σ := σ6) hm0
  refine va_put (D := (dC, dI)) (cl := kCl) (ci := 5) (v := .int (if (xI σ6 604 j0 0) < (a1 + 1) then (a1 + 1) else (xI σ6 604 j0 0))) (ty := .int) (C := RC) (T := TC) (N := 5) (pc := 25) hx hb hts inC tyC tyC_ok nmC hown hK.1 hP hD hS q11 eq11 rfl 4 (by decide) (hts _ wd_246) (fun _ h9 => h9) rfl (by decide +kernel) (rfl) (rfl) (Nat.le_of_ble_eq_true rfl) dC_setReference_25 (fun H locs hP hD hS => ?_)
  obtain ⟨σ10, hσ10, hf⟩ := lt_9 hf
  obtain ⟨hP, hD⟩ := w9_rI 604 rfl hN hq11 hσ10 (pu_604) hP hD
  have hC : clo dom σ10.2.2 := by rw [hσ10]; exact hC
  obtain ⟨h8, h9⟩ := Prod.mk.inj (Option.some.inj hf)
  subst h9
  exact W.vret (pc := 28) hx hb hr (fun t ht hW => ⟨⟨(), rfl, trivial, by rw [ht]; exact hP, hD, hC⟩, hS.F ht⟩) hS.2.2 dC_setReference_28
def C_removeReference_L12 (n : Nat) (kx9 : hT → Int32 → Nat → Int32 → Option (Unit × hT)) : Nat → hT → Int32 → Nat → Int32 → Option (Unit × hT)
  | 0, _, _, _, _ => none
  | k + 1, σ4, p5, j6, p8 => if (xI σ4 604 j6 0) ≤ p5 then kx9 (σ4) p5 j6 p8 else if in9 (p5 + 1) 6 then if in9 p5 6 then lt9 (sI σ4 21 j6 (p5).toNatClampNeg (xI σ4 21 j6 ((p5 + 1)).toNatClampNeg)) fun σ17 => if in9 (p5 + 1) 6 then if in9 p5 6 then lt9 (sI σ17 22 j6 (p5).toNatClampNeg (xI σ17 22 j6 ((p5 + 1)).toNatClampNeg)) fun σ24 => C_removeReference_L12 n kx9 k (σ24) (p5 + 1) j6 p8 else none else none else none else none
def C_removeReference (n : Nat) (σ : hT) (j0 : Nat) (a1 : Int32) : Option (Unit × hT) := lt9 (sI σ 604 j0 0 ((xI σ 604 j0 0) - 1)) fun σ2 => lt9 (α := hT → Int32 → Nat → Int32 → Option (Unit × hT)) (fun (σ4 : hT) (p5 : Int32) (j6 : Nat) (p8 : Int32) => some ((), σ4)) fun kx9 => C_removeReference_L12 n kx9 n (σ2) a1 j0 a1
set_option maxHeartbeats 4000000 in
set_option maxRecDepth 100000 in
theorem t_C_removeReference (l : Launch) (dC : Nat → ClassId) (dI : Nat → Nat → Nat) (ad : Nat → Nat → Nat) (ca : Nat → Nat → ClassId) (dom : List (Nat × Nat)) (sz : Nat) (n : Nat) (σ : hT) (j0 : Nat) (a1 : Int32) (hm0 : (5, j0) ∈ dom) (hN : dom.Nodup) (hC : clo dom σ.2.2) (ρ : Unit) (σ' : hT) (hf : C_removeReference n σ j0 a1 = some (ρ, σ')) : Met l yC_removeReference (.code yC_removeReference cC_removeReference 3 none :: aw) ({ frames := 0, cells := 0, slots := 0, locals := 0 }) (hW (dC, dI) sz ad ca dom σ [.ref (ad 5 j0), .int a1]) (va_Qv (fun (_ : Unit) => True) (fun _ t => hB (dC, dI) (va_A (w9 ad ca dom σ) sz) ad ca dom σ' t) (va_A (w9 ad ca dom σ) sz)) 0 0 (va_A (w9 ad ca dom σ) sz) := by
  refine Met.ofW (cc := cC_removeReference) (maxL := 3) (ret := none) (by decide) rfl ?_
  intro p e s m args below meth c s₁ B hml hv
  obtain ⟨rfl, hv⟩ := hv
  have hx := B.exec
  have hb := B.bytes
  have hr := B.returns
  have hts : ∀ w ∈ aw, w.before _ s = true := fun w h => atoms_spec (ws := (.code yC_removeReference cC_removeReference 3 none :: aw)) B.pre w (List.mem_cons_of_mem _ h)
  have hown : s.vm.findClass RC = some m.cls := findClass_of_methodNamed B.named
  have hlocks := B.notSynchronized
  obtain ⟨hsz, hP, hK, hD0, hG⟩ := hv
  subst hsz
  have hD := hD0.self (sz := s.heap.size)
  generalize hAe : va_A (w9 ad ca dom σ) s.heap.size = A at hD ⊢
  have hA : ∀ q : Nat, s.heap.size ≤ q → A q := fun q h => by rw [← hAe]; exact Or.inr h
  obtain ⟨H, hH⟩ : ∃ H, H = s.heap := ⟨_, rfl⟩
  have hS : va_S A s.heap H [] := by rw [hH]; exact va_S.rf
  rw [← hH] at hP ⊢
  unfold C_removeReference at hf
  have hl := lv_entry ([.ref (ad 5 j0), .int a1]) (n := 3) (Nat.le_of_ble_eq_true rfl)
  rw [lg_entry_eq]
  generalize (lg_sl ([.ref (ad 5 j0), .int a1]) ++ List.replicate (3 - (lg_sl ([.ref (ad 5 j0), .int a1])).length) Slot.unset).toArray = ls at hl ⊢
  have hl : lv_has ls 3 [(0, .ref (ad 5 j0)), (1, .int a1)] := hl
  refine lv_aload_n (pc := 0) hx hb dC_removeReference_0 rfl (lv_at hl 0 rfl) ?_
  refine lv_dup (pc := 1) hx hb dC_removeReference_1 rfl ?_
  obtain ⟨q1, hq1, eq1⟩ := at_5 (ad := ad) (ca := ca) (σ := σ) hm0
  refine va_get (D := (dC, dI)) (cl := kCl) (C := RC) (T := TC) (N := 5) (pc := 2) hx hb hts inC hown hK.1 hP q1 eq1 rfl 4 (by decide) (hts _ wd_246) (fun _ h9 => h9) rfl dC_removeReference_2 ?_
  refine lv_iconst (pc := 5) (v := 1) hx hb dC_removeReference_5 (by decide) ?_
  refine lv_isub (pc := 6) hx hb dC_removeReference_6 ?_
  obtain ⟨q3, hq3, eq3⟩ := at_5 (ad := ad) (ca := ca) (σ := σ) hm0
  refine va_put (D := (dC, dI)) (cl := kCl) (ci := 5) (v := .int ((xI σ 604 j0 0) - 1)) (ty := .int) (C := RC) (T := TC) (N := 5) (pc := 7) hx hb hts inC tyC tyC_ok nmC hown hK.1 hP hD hS q3 eq3 rfl 4 (by decide) (hts _ wd_246) (fun _ h9 => h9) rfl (by decide +kernel) (rfl) (rfl) (Nat.le_of_ble_eq_true rfl) dC_removeReference_7 (fun H locs hP hD hS => ?_)
  obtain ⟨σ2, hσ2, hf⟩ := lt_9 hf
  obtain ⟨hP, hD⟩ := w9_rI 604 rfl hN hq3 hσ2 (pu_604) hP hD
  have hC : clo dom σ2.2.2 := by rw [hσ2]; exact hC
  refine lv_iload_n (pc := 10) hx hb dC_removeReference_10 rfl (lv_at hl 1 rfl) ?_
  refine lv_istore_n (pc := 11) hx hb dC_removeReference_11 rfl hl (by decide) rfl (fun ls hl => ?_)
  have hl : lv_has ls 3 [(2, .int a1), (0, .ref (ad 5 j0)), (1, .int a1)] := hl
  obtain ⟨kx9, hkx9, hf⟩ := lt_9 hf
  refine lpF (τ := (hT) × (Int32) × (Nat) × (Int32) × (Heap) × (List Loc) × (Array Slot)) (fun pc z => W p l e _ s m _ below meth c z.2.2.2.2.1 z.2.2.2.2.2.1 0 0 _ (F0 m pc z.2.2.2.2.2.2 [])) 12 54 (fun z => va_P (dC, dI) kCl (w9 ad ca dom z.1) z.2.2.2.2.1 ∧ va_D A (w9 ad ca dom z.1) ∧ va_S A s.heap z.2.2.2.2.1 z.2.2.2.2.2.1 ∧ clo dom z.1.2.2 ∧ lv_has z.2.2.2.2.2.2 3 [(2, .int z.2.1), (0, .ref (ad 5 z.2.2.1)), (1, .int z.2.2.2.1)] ∧ (5, z.2.2.1) ∈ dom) (fun k z => C_removeReference_L12 n kx9 k z.1 z.2.1 z.2.2.1 z.2.2.2.1) (fun z => kx9 z.1 z.2.1 z.2.2.1 z.2.2.2.1) _ (fun z => rfl) ?_ ?_ n (σ2, a1, j0, a1, H, _, ls) ⟨hP, hD, hS, hC, hl, hm0⟩ hf
  · rintro k ⟨σ4, p5, j6, p8, H, locs, ls⟩ ⟨hP, hD, hS, hC, hl, hm7⟩ hf ih10 hXkx9
    dsimp only at hP hD hS hC hl hm7 hf ih10 hXkx9 ⊢
    unfold C_removeReference_L12 at hf
    have hl : lv_has ls 3 [(2, .int p5), (0, .ref (ad 5 j6)), (1, .int p8)] := hl
    refine lv_iload_n (pc := 12) hx hb dC_removeReference_12 rfl (lv_at hl 0 rfl) ?_
    refine lv_aload_n (pc := 13) hx hb dC_removeReference_13 rfl (lv_at hl 1 rfl) ?_
    obtain ⟨q11, hq11, eq11⟩ := at_5 (ad := ad) (ca := ca) (σ := σ4) hm7
    refine va_get (D := (dC, dI)) (cl := kCl) (C := RC) (T := TC) (N := 5) (pc := 14) hx hb hts inC hown hK.1 hP q11 eq11 rfl 4 (by decide) (hts _ wd_246) (fun _ h9 => h9) rfl dC_removeReference_14 ?_
    refine lv_icmp_ge (pc := 17) (tgt := 54) hx hb dC_removeReference_17 rfl (fun h12 => ?_) (fun h12 => ?_)
    · replace hf := ite_t h12 hf
      have hl := lv_sub hl (l' := [(2, .int p5), (0, .ref (ad 5 j6)), (1, .int p8)]) [0, 1, 2] rfl
      exact hXkx9 (σ4, p5, j6, p8, H, _, ls) ⟨hP, hD, hS, hC, hl, hm7⟩ hf
    · replace hf := ite_f h12 hf
      refine lv_aload_n (pc := 20) hx hb dC_removeReference_20 rfl (lv_at hl 1 rfl) ?_
      obtain ⟨q13, hq13, eq13⟩ := at_5 (ad := ad) (ca := ca) (σ := σ4) hm7
      refine va_get (D := (dC, dI)) (cl := kCl) (C := RC) (T := TC) (N := 5) (pc := 21) hx hb hts inC hown hK.1 hP q13 eq13 rfl 2 (by decide) (hts _ wd_247) (fun _ h9 => h9) rfl dC_removeReference_21 ?_
      refine lv_iload_n (pc := 24) hx hb dC_removeReference_24 rfl (lv_at hl 0 rfl) ?_
      refine lv_aload_n (pc := 25) hx hb dC_removeReference_25 rfl (lv_at hl 1 rfl) ?_
      obtain ⟨q14, hq14, eq14⟩ := at_5 (ad := ad) (ca := ca) (σ := σ4) hm7
      refine va_get (D := (dC, dI)) (cl := kCl) (C := RC) (T := TC) (N := 5) (pc := 26) hx hb hts inC hown hK.1 hP q14 eq14 rfl 2 (by decide) (hts _ wd_247) (fun _ h9 => h9) rfl dC_removeReference_26 ?_
      refine lv_iload_n (pc := 29) hx hb dC_removeReference_29 rfl (lv_at hl 0 rfl) ?_
      refine lv_iconst (pc := 30) (v := 1) hx hb dC_removeReference_30 (by decide) ?_
      refine lv_iadd (pc := 31) hx hb dC_removeReference_31 ?_
      obtain ⟨hv15, hf⟩ := ite_s hf
      obtain ⟨q16, hq16, eq16⟩ := at_21 (ad := ad) (ca := ca) (σ := σ4) (cm_5_2 hC hm7)
      refine va_iald (D := (dC, dI)) (cl := kCl) (pc := 32) hx hb (hK.2 21 j6 .int (cm_5_2 hC hm7) rfl) hP q16 0 eq16 rfl (hv15) dC_removeReference_32 ?_
      refine W.eq (g2 := F0 m 33 ls [.int (xI σ4 21 j6 ((p5 + 1)).toNatClampNeg), .int p5, .ref (ad 21 j6)]) rfl ?_
      obtain ⟨hv18, hf⟩ := ite_s hf
      obtain ⟨q19, hq19, eq19⟩ := at_21 (ad := ad) (ca := ca) (σ := σ4) (cm_5_2 hC hm7)
      refine va_iast (D := (dC, dI)) (cl := kCl) (pc := 33) hx hb (hK.2 21 j6 .int (cm_5_2 hC hm7) rfl) hP hD hS q19 0 eq19 rfl (hv18) dC_removeReference_33 (fun H locs hP hD hS => ?_)
      obtain ⟨σ17, hσ17, hf⟩ := lt_9 hf
      obtain ⟨hP, hD⟩ := w9_rI 21 rfl hN hq19 hσ17 (pr_21) hP hD
      have hC : clo dom σ17.2.2 := by rw [hσ17]; exact hC
      refine lv_aload_n (pc := 34) hx hb dC_removeReference_34 rfl (lv_at hl 1 rfl) ?_
      obtain ⟨q20, hq20, eq20⟩ := at_5 (ad := ad) (ca := ca) (σ := σ17) hm7
      refine va_get (D := (dC, dI)) (cl := kCl) (C := RC) (T := TC) (N := 5) (pc := 35) hx hb hts inC hown hK.1 hP q20 eq20 rfl 3 (by decide) (hts _ wd_248) (fun _ h9 => h9) rfl dC_removeReference_35 ?_
      refine lv_iload_n (pc := 38) hx hb dC_removeReference_38 rfl (lv_at hl 0 rfl) ?_
      refine lv_aload_n (pc := 39) hx hb dC_removeReference_39 rfl (lv_at hl 1 rfl) ?_
      obtain ⟨q21, hq21, eq21⟩ := at_5 (ad := ad) (ca := ca) (σ := σ17) hm7
      refine va_get (D := (dC, dI)) (cl := kCl) (C := RC) (T := TC) (N := 5) (pc := 40) hx hb hts inC hown hK.1 hP q21 eq21 rfl 3 (by decide) (hts _ wd_248) (fun _ h9 => h9) rfl dC_removeReference_40 ?_
      refine lv_iload_n (pc := 43) hx hb dC_removeReference_43 rfl (lv_at hl 0 rfl) ?_
      refine lv_iconst (pc := 44) (v := 1) hx hb dC_removeReference_44 (by decide) ?_
      refine lv_iadd (pc := 45) hx hb dC_removeReference_45 ?_
      obtain ⟨hv22, hf⟩ := ite_s hf
      obtain ⟨q23, hq23, eq23⟩ := at_22 (ad := ad) (ca := ca) (σ := σ17) (cm_5_3 hC hm7)
      refine va_iald (D := (dC, dI)) (cl := kCl) (pc := 46) hx hb (hK.2 22 j6 .int (cm_5_3 hC hm7) rfl) hP q23 0 eq23 rfl (hv22) dC_removeReference_46 ?_
      refine W.eq (g2 := F0 m 47 ls [.int (xI σ17 22 j6 ((p5 + 1)).toNatClampNeg), .int p5, .ref (ad 22 j6)]) rfl ?_
      obtain ⟨hv25, hf⟩ := ite_s hf
      obtain ⟨q26, hq26, eq26⟩ := at_22 (ad := ad) (ca := ca) (σ := σ17) (cm_5_3 hC hm7)
      refine va_iast (D := (dC, dI)) (cl := kCl) (pc := 47) hx hb (hK.2 22 j6 .int (cm_5_3 hC hm7) rfl) hP hD hS q26 0 eq26 rfl (hv25) dC_removeReference_47 (fun H locs hP hD hS => ?_)
      obtain ⟨σ24, hσ24, hf⟩ := lt_9 hf
      obtain ⟨hP, hD⟩ := w9_rI 22 rfl hN hq26 hσ24 (pr_22) hP hD
      have hC : clo dom σ24.2.2 := by rw [hσ24]; exact hC
      refine lv_iinc (pc := 48) (v := (p5 + 1)) hx hb dC_removeReference_48 hl (k := 0) rfl (by rfl) (by decide) rfl (fun ls hl => ?_)
      have hl : lv_has ls 3 [(2, .int (p5 + 1)), (0, .ref (ad 5 j6)), (1, .int p8)] := hl
      refine lv_goto (pc := 51) (tgt := 12) hx hb dC_removeReference_51 rfl ?_
      have hl := lv_sub hl (l' := [(2, .int (p5 + 1)), (0, .ref (ad 5 j6)), (1, .int p8)]) [0, 1, 2] rfl
      exact ih10 (σ24, (p5 + 1), j6, p8, H, _, ls) ⟨hP, hD, hS, hC, hl, hm7⟩ hf
  · rintro ⟨σ4, p5, j6, p8, H, locs, ls⟩ ⟨hP, hD, hS, hC, hl, hm7⟩ hf
    dsimp only at hP hD hS hC hl hm7 hf ⊢
    rw [hkx9] at hf
    have hl : lv_has ls 3 [(2, .int p5), (0, .ref (ad 5 j6)), (1, .int p8)] := hl
    obtain ⟨h8, h9⟩ := Prod.mk.inj (Option.some.inj hf)
    subst h9
    exact W.vret (pc := 54) hx hb hr (fun t ht hW => ⟨⟨(), rfl, trivial, by rw [ht]; exact hP, hD, hC⟩, hS.F ht⟩) hS.2.2 dC_removeReference_54
def C_names_L2 (n : Nat) (σ : hT) (kx6 : Int32 → Nat → Int32 → Int32 → Option (Int32)) : Nat → Int32 → Nat → Int32 → Int32 → Option (Int32)
  | 0, _, _, _, _ => none
  | k + 1, p1, j2, p4, p5 => if (xI σ 604 j2 0) ≤ p1 then kx6 p1 j2 p4 p5 else if in9 p1 6 then if (xI σ 21 j2 (p1).toNatClampNeg) = p4 then if in9 p1 6 then if (xI σ 22 j2 (p1).toNatClampNeg) = p5 then some 1 else C_names_L2 n σ kx6 k (p1 + 1) j2 p4 p5 else none else C_names_L2 n σ kx6 k (p1 + 1) j2 p4 p5 else none
def C_names (n : Nat) (σ : hT) (j0 : Nat) (a1 : Int32) (a2 : Int32) : Option (Int32) := lt9 (α := Int32 → Nat → Int32 → Int32 → Option (Int32)) (fun (p1 : Int32) (j2 : Nat) (p4 : Int32) (p5 : Int32) => some 0) fun kx6 => C_names_L2 n σ kx6 n 0 j0 a1 a2
set_option maxHeartbeats 4000000 in
set_option maxRecDepth 100000 in
theorem t_C_names (l : Launch) (dC : Nat → ClassId) (dI : Nat → Nat → Nat) (ad : Nat → Nat → Nat) (ca : Nat → Nat → ClassId) (dom : List (Nat × Nat)) (n : Nat) (σ : hT) (j0 : Nat) (a1 : Int32) (a2 : Int32) (hm0 : (5, j0) ∈ dom) (hN : dom.Nodup) (hC : clo dom σ.2.2) (ρ : Int32) (hf : C_names n σ j0 a1 a2 = some ρ) : Met l yC_names (.code yC_names cC_names 4 (some .boolean) :: aw) ({ frames := 0, cells := 0, slots := 0, locals := 0 }) (hR (dC, dI) ad ca dom σ [.ref (ad 5 j0), .int a1, .int a2]) (vp_Si (fun r => r = ρ)) 0 0 (fun _ => False) := by
  refine Met.ofW (cc := cC_names) (maxL := 4) (ret := (some .boolean)) (by decide) rfl ?_
  intro p e s m args below meth c s₁ B hml hv
  obtain ⟨rfl, hv⟩ := hv
  have hx := B.exec
  have hb := B.bytes
  have hr := B.returns
  have hts : ∀ w ∈ aw, w.before _ s = true := fun w h => atoms_spec (ws := (.code yC_names cC_names 4 (some .boolean) :: aw)) B.pre w (List.mem_cons_of_mem _ h)
  have hown : s.vm.findClass RC = some m.cls := findClass_of_methodNamed B.named
  have hlocks := B.notSynchronized
  obtain ⟨hP, hK, hG⟩ := hv
  obtain ⟨H, hH⟩ : ∃ H, H = s.heap := ⟨_, rfl⟩
  rw [← hH] at hP ⊢
  unfold C_names at hf
  have hl := lv_entry ([.ref (ad 5 j0), .int a1, .int a2]) (n := 4) (Nat.le_of_ble_eq_true rfl)
  rw [lg_entry_eq]
  generalize (lg_sl ([.ref (ad 5 j0), .int a1, .int a2]) ++ List.replicate (4 - (lg_sl ([.ref (ad 5 j0), .int a1, .int a2])).length) Slot.unset).toArray = ls at hl ⊢
  have hl : lv_has ls 4 [(0, .ref (ad 5 j0)), (1, .int a1), (2, .int a2)] := hl
  refine lv_iconst (pc := 0) (v := 0) hx hb dC_names_0 (by decide) ?_
  refine lv_istore_n (pc := 1) hx hb dC_names_1 rfl hl (by decide) rfl (fun ls hl => ?_)
  have hl : lv_has ls 4 [(3, .int 0), (0, .ref (ad 5 j0)), (1, .int a1), (2, .int a2)] := hl
  obtain ⟨kx6, hkx6, hf⟩ := lt_9 hf
  refine lpF (τ := (Int32) × (Nat) × (Int32) × (Int32) × (Array Slot)) (fun pc z => W p l e _ s m _ below meth c H ([]) 0 0 _ (F0 m pc z.2.2.2.2 [])) 2 38 (fun z => lv_has z.2.2.2.2 4 [(3, .int z.1), (0, .ref (ad 5 z.2.1)), (1, .int z.2.2.1), (2, .int z.2.2.2.1)] ∧ (5, z.2.1) ∈ dom) (fun k z => C_names_L2 n σ kx6 k z.1 z.2.1 z.2.2.1 z.2.2.2.1) (fun z => kx6 z.1 z.2.1 z.2.2.1 z.2.2.2.1) _ (fun z => rfl) ?_ ?_ n (0, j0, a1, a2, ls) ⟨hl, hm0⟩ hf
  · rintro k ⟨p1, j2, p4, p5, ls⟩ ⟨hl, hm3⟩ hf ih7 hXkx6
    dsimp only at hl hm3 hf ih7 hXkx6 ⊢
    unfold C_names_L2 at hf
    have hl : lv_has ls 4 [(3, .int p1), (0, .ref (ad 5 j2)), (1, .int p4), (2, .int p5)] := hl
    refine lv_iload_n (pc := 2) hx hb dC_names_2 rfl (lv_at hl 0 rfl) ?_
    refine lv_aload_n (pc := 3) hx hb dC_names_3 rfl (lv_at hl 1 rfl) ?_
    obtain ⟨q8, hq8, eq8⟩ := at_5 (ad := ad) (ca := ca) (σ := σ) hm3
    refine va_get (D := (dC, dI)) (cl := kCl) (C := RC) (T := TC) (N := 5) (pc := 4) hx hb hts inC hown hK.1 hP q8 eq8 rfl 4 (by decide) (hts _ wd_246) (fun _ h9 => h9) rfl dC_names_4 ?_
    refine lv_icmp_ge (pc := 7) (tgt := 38) hx hb dC_names_7 rfl (fun h9 => ?_) (fun h9 => ?_)
    · replace hf := ite_t h9 hf
      have hl := lv_sub hl (l' := [(3, .int p1), (0, .ref (ad 5 j2)), (1, .int p4), (2, .int p5)]) [0, 1, 2, 3] rfl
      exact hXkx6 (p1, j2, p4, p5, ls) ⟨hl, hm3⟩ hf
    · replace hf := ite_f h9 hf
      refine lv_aload_n (pc := 10) hx hb dC_names_10 rfl (lv_at hl 1 rfl) ?_
      obtain ⟨q10, hq10, eq10⟩ := at_5 (ad := ad) (ca := ca) (σ := σ) hm3
      refine va_get (D := (dC, dI)) (cl := kCl) (C := RC) (T := TC) (N := 5) (pc := 11) hx hb hts inC hown hK.1 hP q10 eq10 rfl 2 (by decide) (hts _ wd_247) (fun _ h9 => h9) rfl dC_names_11 ?_
      refine lv_iload_n (pc := 14) hx hb dC_names_14 rfl (lv_at hl 0 rfl) ?_
      obtain ⟨hv11, hf⟩ := ite_s hf
      obtain ⟨q12, hq12, eq12⟩ := at_21 (ad := ad) (ca := ca) (σ := σ) (cm_5_2 hC hm3)
      refine va_iald (D := (dC, dI)) (cl := kCl) (pc := 15) hx hb (hK.2 21 j2 .int (cm_5_2 hC hm3) rfl) hP q12 0 eq12 rfl (hv11) dC_names_15 ?_
      refine W.eq (g2 := F0 m 16 ls [.int (xI σ 21 j2 (p1).toNatClampNeg)]) rfl ?_
      refine lv_iload_n (pc := 16) hx hb dC_names_16 rfl (lv_at hl 2 rfl) ?_
      refine lv_icmp_ne (pc := 17) (tgt := 32) hx hb dC_names_17 rfl (fun h13 => ?_) (fun h13 => ?_)
      · replace hf := ite_f h13 hf
        refine lv_iinc (pc := 32) (v := (p1 + 1)) hx hb dC_names_32 hl (k := 0) rfl (by rfl) (by decide) rfl (fun ls hl => ?_)
        have hl : lv_has ls 4 [(3, .int (p1 + 1)), (0, .ref (ad 5 j2)), (1, .int p4), (2, .int p5)] := hl
        refine lv_goto (pc := 35) (tgt := 2) hx hb dC_names_35 rfl ?_
        have hl := lv_sub hl (l' := [(3, .int (p1 + 1)), (0, .ref (ad 5 j2)), (1, .int p4), (2, .int p5)]) [0, 1, 2, 3] rfl
        exact ih7 ((p1 + 1), j2, p4, p5, ls) ⟨hl, hm3⟩ hf
      · replace hf := ite_t h13 hf
        refine lv_aload_n (pc := 20) hx hb dC_names_20 rfl (lv_at hl 1 rfl) ?_
        obtain ⟨q14, hq14, eq14⟩ := at_5 (ad := ad) (ca := ca) (σ := σ) hm3
        refine va_get (D := (dC, dI)) (cl := kCl) (C := RC) (T := TC) (N := 5) (pc := 21) hx hb hts inC hown hK.1 hP q14 eq14 rfl 3 (by decide) (hts _ wd_248) (fun _ h9 => h9) rfl dC_names_21 ?_
        refine lv_iload_n (pc := 24) hx hb dC_names_24 rfl (lv_at hl 0 rfl) ?_
        obtain ⟨hv15, hf⟩ := ite_s hf
        obtain ⟨q16, hq16, eq16⟩ := at_22 (ad := ad) (ca := ca) (σ := σ) (cm_5_3 hC hm3)
        refine va_iald (D := (dC, dI)) (cl := kCl) (pc := 25) hx hb (hK.2 22 j2 .int (cm_5_3 hC hm3) rfl) hP q16 0 eq16 rfl (hv15) dC_names_25 ?_
        refine W.eq (g2 := F0 m 26 ls [.int (xI σ 22 j2 (p1).toNatClampNeg)]) rfl ?_
        refine lv_iload_n (pc := 26) hx hb dC_names_26 rfl (lv_at hl 3 rfl) ?_
        refine lv_icmp_ne (pc := 27) (tgt := 32) hx hb dC_names_27 rfl (fun h17 => ?_) (fun h17 => ?_)
        · replace hf := ite_f h17 hf
          refine lv_iinc (pc := 32) (v := (p1 + 1)) hx hb dC_names_32 hl (k := 0) rfl (by rfl) (by decide) rfl (fun ls hl => ?_)
          have hl : lv_has ls 4 [(3, .int (p1 + 1)), (0, .ref (ad 5 j2)), (1, .int p4), (2, .int p5)] := hl
          refine lv_goto (pc := 35) (tgt := 2) hx hb dC_names_35 rfl ?_
          have hl := lv_sub hl (l' := [(3, .int (p1 + 1)), (0, .ref (ad 5 j2)), (1, .int p4), (2, .int p5)]) [0, 1, 2, 3] rfl
          exact ih7 ((p1 + 1), j2, p4, p5, ls) ⟨hl, hm3⟩ hf
        · replace hf := ite_t h17 hf
          refine lv_iconst (pc := 30) (v := 1) hx hb dC_names_30 (by decide) ?_
          exact W.zret (pc := 31) hx hb hr (rfl) (fun t ht hW => ⟨_, rfl, (Option.some.inj hf), ht.trans hH⟩) (fun q h => nomatch h) dC_names_31
  · rintro ⟨p1, j2, p4, p5, ls⟩ ⟨hl, hm3⟩ hf
    dsimp only at hl hm3 hf ⊢
    rw [hkx6] at hf
    have hl : lv_has ls 4 [(3, .int p1), (0, .ref (ad 5 j2)), (1, .int p4), (2, .int p5)] := hl
    refine lv_iconst (pc := 38) (v := 0) hx hb dC_names_38 (by decide) ?_
    exact W.zret (pc := 39) hx hb hr (rfl) (fun t ht hW => ⟨_, rfl, (Option.some.inj hf), ht.trans hH⟩) (fun q h => nomatch h) dC_names_39
def C_takeFrom (σ : hT) (j0 : Nat) (j1 : Nat) : Option (Unit × hT) := lt9 (sL9 σ 20 j0 (cp9 (xL σ 20 j1) (xL σ 20 j0) 8)) fun σ3 => lt9 (sI9 σ3 21 j0 (cp9 (xI σ3 21 j1) (xI σ3 21 j0) 6)) fun σ8 => lt9 (sI9 σ8 22 j0 (cp9 (xI σ8 22 j1) (xI σ8 22 j0) 6)) fun σ13 => lt9 (sI σ13 601 j0 0 (xI σ13 601 j1 0)) fun σ17 => lt9 (sI σ17 604 j0 0 (xI σ17 604 j1 0)) fun σ20 => some ((), σ20)
set_option maxHeartbeats 4000000 in
set_option maxRecDepth 100000 in
theorem t_C_takeFrom (l : Launch) (dC : Nat → ClassId) (dI : Nat → Nat → Nat) (ad : Nat → Nat → Nat) (ca : Nat → Nat → ClassId) (dom : List (Nat × Nat)) (sz : Nat) (σ : hT) (j0 : Nat) (j1 : Nat) (hm0 : (5, j0) ∈ dom) (hm1 : (5, j1) ∈ dom) (hN : dom.Nodup) (hC : clo dom σ.2.2) (ρ : Unit) (σ' : hT) (hf : C_takeFrom σ j0 j1 = some (ρ, σ')) : Met l yC_takeFrom (.code yC_takeFrom cC_takeFrom 2 none :: aw) ({ frames := 1, cells := 0, slots := 0, locals := 40 }) (hW (dC, dI) sz ad ca dom σ [.ref (ad 5 j0), .ref (ad 5 j1)]) (va_Qv (fun (_ : Unit) => True) (fun _ t => hB (dC, dI) (va_A (w9 ad ca dom σ) sz) ad ca dom σ' t) (va_A (w9 ad ca dom σ) sz)) 0 0 (va_A (w9 ad ca dom σ) sz) := by
  refine Met.ofW (cc := cC_takeFrom) (maxL := 2) (ret := none) (by decide) rfl ?_
  intro p e s m args below meth c s₁ B hml hv
  obtain ⟨rfl, hv⟩ := hv
  have hx := B.exec
  have hb := B.bytes
  have hr := B.returns
  have hts : ∀ w ∈ aw, w.before _ s = true := fun w h => atoms_spec (ws := (.code yC_takeFrom cC_takeFrom 2 none :: aw)) B.pre w (List.mem_cons_of_mem _ h)
  have hown : s.vm.findClass RC = some m.cls := findClass_of_methodNamed B.named
  have hlocks := B.notSynchronized
  obtain ⟨hsz, hP, hK, hD0, hG⟩ := hv
  subst hsz
  have hD := hD0.self (sz := s.heap.size)
  generalize hAe : va_A (w9 ad ca dom σ) s.heap.size = A at hD ⊢
  have hA : ∀ q : Nat, s.heap.size ≤ q → A q := fun q h => by rw [← hAe]; exact Or.inr h
  obtain ⟨H, hH⟩ : ∃ H, H = s.heap := ⟨_, rfl⟩
  have hS : va_S A s.heap H [] := by rw [hH]; exact va_S.rf
  rw [← hH] at hP ⊢
  unfold C_takeFrom at hf
  have hl := lv_entry ([.ref (ad 5 j0), .ref (ad 5 j1)]) (n := 2) (Nat.le_of_ble_eq_true rfl)
  rw [lg_entry_eq]
  generalize (lg_sl ([.ref (ad 5 j0), .ref (ad 5 j1)]) ++ List.replicate (2 - (lg_sl ([.ref (ad 5 j0), .ref (ad 5 j1)])).length) Slot.unset).toArray = ls at hl ⊢
  have hl : lv_has ls 2 [(0, .ref (ad 5 j0)), (1, .ref (ad 5 j1))] := hl
  refine lv_aload_n (pc := 0) hx hb dC_takeFrom_0 rfl (lv_at hl 1 rfl) ?_
  obtain ⟨q1, hq1, eq1⟩ := at_5 (ad := ad) (ca := ca) (σ := σ) hm1
  refine va_get (D := (dC, dI)) (cl := kCl) (C := RC) (T := TC) (N := 5) (pc := 1) hx hb hts inC hown hK.1 hP q1 eq1 rfl 0 (by decide) (hts _ wd_224) (fun _ h9 => h9) rfl dC_takeFrom_1 ?_
  refine lv_iconst (pc := 4) (v := 0) hx hb dC_takeFrom_4 (by decide) ?_
  refine lv_aload_n (pc := 5) hx hb dC_takeFrom_5 rfl (lv_at hl 0 rfl) ?_
  obtain ⟨q2, hq2, eq2⟩ := at_5 (ad := ad) (ca := ca) (σ := σ) hm0
  refine va_get (D := (dC, dI)) (cl := kCl) (C := RC) (T := TC) (N := 5) (pc := 6) hx hb hts inC hown hK.1 hP q2 eq2 rfl 0 (by decide) (hts _ wd_224) (fun _ h9 => h9) rfl dC_takeFrom_6 ?_
  refine lv_iconst (pc := 9) (v := 0) hx hb dC_takeFrom_9 (by decide) ?_
  refine lv_bipush (pc := 10) (v := 8) hx hb dC_takeFrom_10 (by decide) ?_
  obtain ⟨q4, hq4, eq4⟩ := at_20 (ad := ad) (ca := ca) (σ := σ) (cm_5_0 hC hm1)
  obtain ⟨q5, hq5, eq5⟩ := at_20 (ad := ad) (ca := ca) (σ := σ) (cm_5_0 hC hm0)
  refine va_copyl (D := (dC, dI)) (cl := kCl) (pc := 12) hx hb (hml.trans hl.1.symm) hown (hts _ wd_249) (hts _ wd_250) (hts _ wd_251) (hts _ wd_252) ((hK.2 20 j1 .long (cm_5_0 hC hm1) rfl).app (hK.2 20 j0 .long (cm_5_0 hC hm0) rfl)) hP hD hS q4 q5 0 1 eq4 eq5 rfl rfl rfl (by decide) (by decide) (by decide) (by decide) (by decide) (fun i _ => rfl) (Nat.le_of_ble_eq_true rfl) (Nat.le_of_ble_eq_true rfl) dC_takeFrom_12 (fun H locs hP hD hS => ?_)
  obtain ⟨σ3, hσ3, hf⟩ := lt_9 hf
  rw [cpy_8] at hP hD
  obtain ⟨hP, hD⟩ := w9_rL 20 rfl hN hq5 hσ3 (pr_20) hP hD
  have hC : clo dom σ3.2.2 := by rw [hσ3]; exact hC
  refine lv_aload_n (pc := 15) hx hb dC_takeFrom_15 rfl (lv_at hl 1 rfl) ?_
  obtain ⟨q6, hq6, eq6⟩ := at_5 (ad := ad) (ca := ca) (σ := σ3) hm1
  refine va_get (D := (dC, dI)) (cl := kCl) (C := RC) (T := TC) (N := 5) (pc := 16) hx hb hts inC hown hK.1 hP q6 eq6 rfl 2 (by decide) (hts _ wd_247) (fun _ h9 => h9) rfl dC_takeFrom_16 ?_
  refine lv_iconst (pc := 19) (v := 0) hx hb dC_takeFrom_19 (by decide) ?_
  refine lv_aload_n (pc := 20) hx hb dC_takeFrom_20 rfl (lv_at hl 0 rfl) ?_
  obtain ⟨q7, hq7, eq7⟩ := at_5 (ad := ad) (ca := ca) (σ := σ3) hm0
  refine va_get (D := (dC, dI)) (cl := kCl) (C := RC) (T := TC) (N := 5) (pc := 21) hx hb hts inC hown hK.1 hP q7 eq7 rfl 2 (by decide) (hts _ wd_247) (fun _ h9 => h9) rfl dC_takeFrom_21 ?_
  refine lv_iconst (pc := 24) (v := 0) hx hb dC_takeFrom_24 (by decide) ?_
  refine lv_bipush (pc := 25) (v := 6) hx hb dC_takeFrom_25 (by decide) ?_
  obtain ⟨q9, hq9, eq9⟩ := at_21 (ad := ad) (ca := ca) (σ := σ3) (cm_5_2 hC hm1)
  obtain ⟨q10, hq10, eq10⟩ := at_21 (ad := ad) (ca := ca) (σ := σ3) (cm_5_2 hC hm0)
  refine va_copyi (D := (dC, dI)) (cl := kCl) (pc := 27) hx hb (hml.trans hl.1.symm) hown (hts _ wd_249) (hts _ wd_250) (hts _ wd_251) (hts _ wd_252) ((hK.2 21 j1 .int (cm_5_2 hC hm1) rfl).app (hK.2 21 j0 .int (cm_5_2 hC hm0) rfl)) hP hD hS q9 q10 0 1 eq9 eq10 rfl rfl rfl (by decide) (by decide) (by decide) (by decide) (by decide) (fun i _ => rfl) (Nat.le_of_ble_eq_true rfl) (Nat.le_of_ble_eq_true rfl) dC_takeFrom_27 (fun H locs hP hD hS => ?_)
  obtain ⟨σ8, hσ8, hf⟩ := lt_9 hf
  rw [cpy_6] at hP hD
  obtain ⟨hP, hD⟩ := w9_rI 21 rfl hN hq10 hσ8 (pr_21) hP hD
  have hC : clo dom σ8.2.2 := by rw [hσ8]; exact hC
  refine lv_aload_n (pc := 30) hx hb dC_takeFrom_30 rfl (lv_at hl 1 rfl) ?_
  obtain ⟨q11, hq11, eq11⟩ := at_5 (ad := ad) (ca := ca) (σ := σ8) hm1
  refine va_get (D := (dC, dI)) (cl := kCl) (C := RC) (T := TC) (N := 5) (pc := 31) hx hb hts inC hown hK.1 hP q11 eq11 rfl 3 (by decide) (hts _ wd_248) (fun _ h9 => h9) rfl dC_takeFrom_31 ?_
  refine lv_iconst (pc := 34) (v := 0) hx hb dC_takeFrom_34 (by decide) ?_
  refine lv_aload_n (pc := 35) hx hb dC_takeFrom_35 rfl (lv_at hl 0 rfl) ?_
  obtain ⟨q12, hq12, eq12⟩ := at_5 (ad := ad) (ca := ca) (σ := σ8) hm0
  refine va_get (D := (dC, dI)) (cl := kCl) (C := RC) (T := TC) (N := 5) (pc := 36) hx hb hts inC hown hK.1 hP q12 eq12 rfl 3 (by decide) (hts _ wd_248) (fun _ h9 => h9) rfl dC_takeFrom_36 ?_
  refine lv_iconst (pc := 39) (v := 0) hx hb dC_takeFrom_39 (by decide) ?_
  refine lv_bipush (pc := 40) (v := 6) hx hb dC_takeFrom_40 (by decide) ?_
  obtain ⟨q14, hq14, eq14⟩ := at_22 (ad := ad) (ca := ca) (σ := σ8) (cm_5_3 hC hm1)
  obtain ⟨q15, hq15, eq15⟩ := at_22 (ad := ad) (ca := ca) (σ := σ8) (cm_5_3 hC hm0)
  refine va_copyi (D := (dC, dI)) (cl := kCl) (pc := 42) hx hb (hml.trans hl.1.symm) hown (hts _ wd_249) (hts _ wd_250) (hts _ wd_251) (hts _ wd_252) ((hK.2 22 j1 .int (cm_5_3 hC hm1) rfl).app (hK.2 22 j0 .int (cm_5_3 hC hm0) rfl)) hP hD hS q14 q15 0 1 eq14 eq15 rfl rfl rfl (by decide) (by decide) (by decide) (by decide) (by decide) (fun i _ => rfl) (Nat.le_of_ble_eq_true rfl) (Nat.le_of_ble_eq_true rfl) dC_takeFrom_42 (fun H locs hP hD hS => ?_)
  obtain ⟨σ13, hσ13, hf⟩ := lt_9 hf
  rw [cpy_6] at hP hD
  obtain ⟨hP, hD⟩ := w9_rI 22 rfl hN hq15 hσ13 (pr_22) hP hD
  have hC : clo dom σ13.2.2 := by rw [hσ13]; exact hC
  refine lv_aload_n (pc := 45) hx hb dC_takeFrom_45 rfl (lv_at hl 0 rfl) ?_
  refine lv_aload_n (pc := 46) hx hb dC_takeFrom_46 rfl (lv_at hl 1 rfl) ?_
  obtain ⟨q16, hq16, eq16⟩ := at_5 (ad := ad) (ca := ca) (σ := σ13) hm1
  refine va_get (D := (dC, dI)) (cl := kCl) (C := RC) (T := TC) (N := 5) (pc := 47) hx hb hts inC hown hK.1 hP q16 eq16 rfl 1 (by decide) (hts _ wd_223) (fun _ h9 => h9) rfl dC_takeFrom_47 ?_
  obtain ⟨q18, hq18, eq18⟩ := at_5 (ad := ad) (ca := ca) (σ := σ13) hm0
  refine va_put (D := (dC, dI)) (cl := kCl) (ci := 5) (v := .int (xI σ13 601 j1 0)) (ty := .int) (C := RC) (T := TC) (N := 5) (pc := 50) hx hb hts inC tyC tyC_ok nmC hown hK.1 hP hD hS q18 eq18 rfl 1 (by decide) (hts _ wd_223) (fun _ h9 => h9) rfl (by decide +kernel) (rfl) (rfl) (Nat.le_of_ble_eq_true rfl) dC_takeFrom_50 (fun H locs hP hD hS => ?_)
  obtain ⟨σ17, hσ17, hf⟩ := lt_9 hf
  obtain ⟨hP, hD⟩ := w9_rI 601 rfl hN hq18 hσ17 (pu_601) hP hD
  have hC : clo dom σ17.2.2 := by rw [hσ17]; exact hC
  refine lv_aload_n (pc := 53) hx hb dC_takeFrom_53 rfl (lv_at hl 0 rfl) ?_
  refine lv_aload_n (pc := 54) hx hb dC_takeFrom_54 rfl (lv_at hl 1 rfl) ?_
  obtain ⟨q19, hq19, eq19⟩ := at_5 (ad := ad) (ca := ca) (σ := σ17) hm1
  refine va_get (D := (dC, dI)) (cl := kCl) (C := RC) (T := TC) (N := 5) (pc := 55) hx hb hts inC hown hK.1 hP q19 eq19 rfl 4 (by decide) (hts _ wd_246) (fun _ h9 => h9) rfl dC_takeFrom_55 ?_
  obtain ⟨q21, hq21, eq21⟩ := at_5 (ad := ad) (ca := ca) (σ := σ17) hm0
  refine va_put (D := (dC, dI)) (cl := kCl) (ci := 5) (v := .int (xI σ17 604 j1 0)) (ty := .int) (C := RC) (T := TC) (N := 5) (pc := 58) hx hb hts inC tyC tyC_ok nmC hown hK.1 hP hD hS q21 eq21 rfl 4 (by decide) (hts _ wd_246) (fun _ h9 => h9) rfl (by decide +kernel) (rfl) (rfl) (Nat.le_of_ble_eq_true rfl) dC_takeFrom_58 (fun H locs hP hD hS => ?_)
  obtain ⟨σ20, hσ20, hf⟩ := lt_9 hf
  obtain ⟨hP, hD⟩ := w9_rI 604 rfl hN hq21 hσ20 (pu_604) hP hD
  have hC : clo dom σ20.2.2 := by rw [hσ20]; exact hC
  obtain ⟨h8, h9⟩ := Prod.mk.inj (Option.some.inj hf)
  subst h9
  exact W.vret (pc := 61) hx hb hr (fun t ht hW => ⟨⟨(), rfl, trivial, by rw [ht]; exact hP, hD, hC⟩, hS.F ht⟩) hS.2.2 dC_takeFrom_61
def V_bit (a0 : Int32) : Int32 := (1 <<< (a0 &&& 31))
set_option maxHeartbeats 4000000 in
set_option maxRecDepth 100000 in
theorem t_V_bit (l : Launch) (dC : Nat → ClassId) (dI : Nat → Nat → Nat) (ad : Nat → Nat → Nat) (ca : Nat → Nat → ClassId) (dom : List (Nat × Nat)) (a0 : Int32) (σ : hT) (hN : dom.Nodup) (hC : clo dom σ.2.2) (ρ : Int32) (hf : V_bit a0 = ρ) : Met l yV_bit (.code yV_bit cV_bit 1 (some .int) :: aw) ({ frames := 0, cells := 0, slots := 0, locals := 0 }) (hR (dC, dI) ad ca dom σ [.int a0]) (vp_Si (fun r => r = ρ)) 0 0 (fun _ => False) := by
  refine Met.ofW (cc := cV_bit) (maxL := 1) (ret := (some .int)) (by decide) rfl ?_
  intro p e s m args below meth c s₁ B hml hv
  obtain ⟨rfl, hv⟩ := hv
  have hx := B.exec
  have hb := B.bytes
  have hr := B.returns
  have hts : ∀ w ∈ aw, w.before _ s = true := fun w h => atoms_spec (ws := (.code yV_bit cV_bit 1 (some .int) :: aw)) B.pre w (List.mem_cons_of_mem _ h)
  have hown : s.vm.findClass RV = some m.cls := findClass_of_methodNamed B.named
  have hlocks := B.notSynchronized
  obtain ⟨hP, hK, hG⟩ := hv
  obtain ⟨H, hH⟩ : ∃ H, H = s.heap := ⟨_, rfl⟩
  rw [← hH] at hP ⊢
  unfold V_bit at hf
  have hl := lv_entry ([.int a0]) (n := 1) (Nat.le_of_ble_eq_true rfl)
  rw [lg_entry_eq]
  generalize (lg_sl ([.int a0]) ++ List.replicate (1 - (lg_sl ([.int a0])).length) Slot.unset).toArray = ls at hl ⊢
  have hl : lv_has ls 1 [(0, .int a0)] := hl
  refine lv_iconst (pc := 0) (v := 1) hx hb dV_bit_0 (by decide) ?_
  refine lv_iload_n (pc := 1) hx hb dV_bit_1 rfl (lv_at hl 0 rfl) ?_
  refine lv_ishl (pc := 2) hx hb dV_bit_2 ?_
  exact W.iret (pc := 3) hx hb hr (fun t ht hW => ⟨_, rfl, hf, ht.trans hH⟩) (fun q h => nomatch h) dV_bit_3
def C_targetBits_L4 (n : Nat) (σ : hT) (kx5 : Int32 → Int32 → Nat → Option (Int32)) : Nat → Int32 → Int32 → Nat → Option (Int32)
  | 0, _, _, _ => none
  | k + 1, p1, p2, j3 => if (xI σ 604 j3 0) ≤ p1 then kx5 p1 p2 j3 else if in9 p1 6 then C_targetBits_L4 n σ kx5 k (p1 + 1) (p2 ||| (V_bit (xI σ 21 j3 (p1).toNatClampNeg))) j3 else none
def C_targetBits (n : Nat) (σ : hT) (j0 : Nat) : Option (Int32) := lt9 (α := Int32 → Int32 → Nat → Option (Int32)) (fun (p1 : Int32) (p2 : Int32) (j3 : Nat) => some p2) fun kx5 => C_targetBits_L4 n σ kx5 n 0 0 j0
set_option maxHeartbeats 4000000 in
set_option maxRecDepth 100000 in
theorem t_C_targetBits (l : Launch) (dC : Nat → ClassId) (dI : Nat → Nat → Nat) (ad : Nat → Nat → Nat) (ca : Nat → Nat → ClassId) (dom : List (Nat × Nat)) (n : Nat) (σ : hT) (j0 : Nat) (hm0 : (5, j0) ∈ dom) (hN : dom.Nodup) (hC : clo dom σ.2.2) (ρ : Int32) (hf : C_targetBits n σ j0 = some ρ) : Met l yC_targetBits (.code yC_targetBits cC_targetBits 3 (some .int) :: aw) ({ frames := 1, cells := 0, slots := 0, locals := 20 }) (hR (dC, dI) ad ca dom σ [.ref (ad 5 j0)]) (vp_Si (fun r => r = ρ)) 0 0 (fun _ => False) := by
  refine Met.ofW (cc := cC_targetBits) (maxL := 3) (ret := (some .int)) (by decide) rfl ?_
  intro p e s m args below meth c s₁ B hml hv
  obtain ⟨rfl, hv⟩ := hv
  have hx := B.exec
  have hb := B.bytes
  have hr := B.returns
  have hts : ∀ w ∈ aw, w.before _ s = true := fun w h => atoms_spec (ws := (.code yC_targetBits cC_targetBits 3 (some .int) :: aw)) B.pre w (List.mem_cons_of_mem _ h)
  have hown : s.vm.findClass RC = some m.cls := findClass_of_methodNamed B.named
  have hlocks := B.notSynchronized
  obtain ⟨hP, hK, hG⟩ := hv
  obtain ⟨H, hH⟩ : ∃ H, H = s.heap := ⟨_, rfl⟩
  rw [← hH] at hP ⊢
  unfold C_targetBits at hf
  have hl := lv_entry ([.ref (ad 5 j0)]) (n := 3) (Nat.le_of_ble_eq_true rfl)
  rw [lg_entry_eq]
  generalize (lg_sl ([.ref (ad 5 j0)]) ++ List.replicate (3 - (lg_sl ([.ref (ad 5 j0)])).length) Slot.unset).toArray = ls at hl ⊢
  have hl : lv_has ls 3 [(0, .ref (ad 5 j0))] := hl
  refine lv_iconst (pc := 0) (v := 0) hx hb dC_targetBits_0 (by decide) ?_
  refine lv_istore_n (pc := 1) hx hb dC_targetBits_1 rfl hl (by decide) rfl (fun ls hl => ?_)
  have hl : lv_has ls 3 [(1, .int 0), (0, .ref (ad 5 j0))] := hl
  refine lv_iconst (pc := 2) (v := 0) hx hb dC_targetBits_2 (by decide) ?_
  refine lv_istore_n (pc := 3) hx hb dC_targetBits_3 rfl hl (by decide) rfl (fun ls hl => ?_)
  have hl : lv_has ls 3 [(2, .int 0), (1, .int 0), (0, .ref (ad 5 j0))] := hl
  obtain ⟨kx5, hkx5, hf⟩ := lt_9 hf
  refine lpF (τ := (Int32) × (Int32) × (Nat) × (Array Slot)) (fun pc z => W p l e _ s m _ below meth c H ([]) 0 0 _ (F0 m pc z.2.2.2 [])) 4 30 (fun z => lv_has z.2.2.2 3 [(2, .int z.1), (1, .int z.2.1), (0, .ref (ad 5 z.2.2.1))] ∧ (5, z.2.2.1) ∈ dom) (fun k z => C_targetBits_L4 n σ kx5 k z.1 z.2.1 z.2.2.1) (fun z => kx5 z.1 z.2.1 z.2.2.1) _ (fun z => rfl) ?_ ?_ n (0, 0, j0, ls) ⟨hl, hm0⟩ hf
  · rintro k ⟨p1, p2, j3, ls⟩ ⟨hl, hm4⟩ hf ih6 hXkx5
    dsimp only at hl hm4 hf ih6 hXkx5 ⊢
    unfold C_targetBits_L4 at hf
    have hl : lv_has ls 3 [(2, .int p1), (1, .int p2), (0, .ref (ad 5 j3))] := hl
    refine lv_iload_n (pc := 4) hx hb dC_targetBits_4 rfl (lv_at hl 0 rfl) ?_
    refine lv_aload_n (pc := 5) hx hb dC_targetBits_5 rfl (lv_at hl 2 rfl) ?_
    obtain ⟨q7, hq7, eq7⟩ := at_5 (ad := ad) (ca := ca) (σ := σ) hm4
    refine va_get (D := (dC, dI)) (cl := kCl) (C := RC) (T := TC) (N := 5) (pc := 6) hx hb hts inC hown hK.1 hP q7 eq7 rfl 4 (by decide) (hts _ wd_246) (fun _ h9 => h9) rfl dC_targetBits_6 ?_
    refine lv_icmp_ge (pc := 9) (tgt := 30) hx hb dC_targetBits_9 rfl (fun h8 => ?_) (fun h8 => ?_)
    · replace hf := ite_t h8 hf
      have hl := lv_sub hl (l' := [(2, .int p1), (1, .int p2), (0, .ref (ad 5 j3))]) [0, 1, 2] rfl
      exact hXkx5 (p1, p2, j3, ls) ⟨hl, hm4⟩ hf
    · replace hf := ite_f h8 hf
      refine lv_iload_n (pc := 12) hx hb dC_targetBits_12 rfl (lv_at hl 1 rfl) ?_
      refine lv_aload_n (pc := 13) hx hb dC_targetBits_13 rfl (lv_at hl 2 rfl) ?_
      obtain ⟨q9, hq9, eq9⟩ := at_5 (ad := ad) (ca := ca) (σ := σ) hm4
      refine va_get (D := (dC, dI)) (cl := kCl) (C := RC) (T := TC) (N := 5) (pc := 14) hx hb hts inC hown hK.1 hP q9 eq9 rfl 2 (by decide) (hts _ wd_247) (fun _ h9 => h9) rfl dC_targetBits_14 ?_
      refine lv_iload_n (pc := 17) hx hb dC_targetBits_17 rfl (lv_at hl 0 rfl) ?_
      obtain ⟨hv10, hf⟩ := ite_s hf
      obtain ⟨q11, hq11, eq11⟩ := at_21 (ad := ad) (ca := ca) (σ := σ) (cm_5_2 hC hm4)
      refine va_iald (D := (dC, dI)) (cl := kCl) (pc := 18) hx hb (hK.2 21 j3 .int (cm_5_2 hC hm4) rfl) hP q11 0 eq11 rfl (hv10) dC_targetBits_18 ?_
      refine W.eq (g2 := F0 m 19 ls [.int (xI σ 21 j3 (p1).toNatClampNeg), .int p2]) rfl ?_
      refine vp_callSi (pc := 19) (va_Run.run <| va_runSN (As := [.int (xI σ 21 j3 (p1).toNatClampNeg)]) (rest := [.int p2]) ⟨hx, hb, hml, hown, hts⟩ (t_V_bit l dC dI ad ca dom (xI σ 21 j3 (p1).toNatClampNeg) σ hN hC (V_bit (xI σ 21 j3 (p1).toNatClampNeg)) rfl) (⟨va_cnB 1 hts (gI wd_253) rfl rfl rfl (eG_C65 hG) (hts _ wd_254) (by decide +kernel) ⟨Nat.le_of_ble_eq_true rfl, Nat.le_of_ble_eq_true rfl⟩, hts _ wd_255, trivial⟩) ⟨hR_blind, hR_pre hP hK hG⟩ rfl rfl hl.1 rfl (lv_room (Nat.le_of_ble_eq_true rfl)) dC_targetBits_19 ⟨Nat.le_of_ble_eq_true rfl, Nat.le_of_ble_eq_true rfl⟩) (fun r9 hr9 => ?_)
      refine W.eq (g2 := F0 m 22 ls [.int (V_bit (xI σ 21 j3 (p1).toNatClampNeg)), .int p2]) (by rw [hr9]) ?_
      refine lv_ior (pc := 22) hx hb dC_targetBits_22 ?_
      refine lv_istore_n (pc := 23) hx hb dC_targetBits_23 rfl hl (by decide) rfl (fun ls hl => ?_)
      have hl : lv_has ls 3 [(1, .int (p2 ||| (V_bit (xI σ 21 j3 (p1).toNatClampNeg)))), (2, .int p1), (0, .ref (ad 5 j3))] := hl
      refine lv_iinc (pc := 24) (v := (p1 + 1)) hx hb dC_targetBits_24 hl (k := 1) rfl (by rfl) (by decide) rfl (fun ls hl => ?_)
      have hl : lv_has ls 3 [(2, .int (p1 + 1)), (1, .int (p2 ||| (V_bit (xI σ 21 j3 (p1).toNatClampNeg)))), (0, .ref (ad 5 j3))] := hl
      refine lv_goto (pc := 27) (tgt := 4) hx hb dC_targetBits_27 rfl ?_
      have hl := lv_sub hl (l' := [(2, .int (p1 + 1)), (1, .int (p2 ||| (V_bit (xI σ 21 j3 (p1).toNatClampNeg)))), (0, .ref (ad 5 j3))]) [0, 1, 2] rfl
      exact ih6 ((p1 + 1), (p2 ||| (V_bit (xI σ 21 j3 (p1).toNatClampNeg))), j3, ls) ⟨hl, hm4⟩ hf
  · rintro ⟨p1, p2, j3, ls⟩ ⟨hl, hm4⟩ hf
    dsimp only at hl hm4 hf ⊢
    rw [hkx5] at hf
    have hl : lv_has ls 3 [(2, .int p1), (1, .int p2), (0, .ref (ad 5 j3))] := hl
    refine lv_iload_n (pc := 30) hx hb dC_targetBits_30 rfl (lv_at hl 1 rfl) ?_
    exact W.iret (pc := 31) hx hb hr (fun t ht hW => ⟨_, rfl, (Option.some.inj hf), ht.trans hH⟩) (fun q h => nomatch h) dC_targetBits_31
def P_failAhead (σ : hT) (a1 : Int32) : Option (Unit × hT) := lt9 (sI σ 404 0 0 1) fun σ1 => lt9 (sI σ1 405 0 0 a1) fun σ3 => some ((), σ3)
set_option maxHeartbeats 4000000 in
set_option maxRecDepth 100000 in
theorem t_P_failAhead (l : Launch) (dC : Nat → ClassId) (dI : Nat → Nat → Nat) (ad : Nat → Nat → Nat) (ca : Nat → Nat → ClassId) (dom : List (Nat × Nat)) (sz : Nat) (σ : hT) (a1 : Int32) (hm0 : (3, 0) ∈ dom) (hN : dom.Nodup) (hC : clo dom σ.2.2) (ρ : Unit) (σ' : hT) (hf : P_failAhead σ a1 = some (ρ, σ')) : Met l yP_failAhead (.code yP_failAhead cP_failAhead 2 none :: aw) ({ frames := 0, cells := 0, slots := 0, locals := 0 }) (hW (dC, dI) sz ad ca dom σ [.ref (ad 3 0), .int a1]) (va_Qv (fun (_ : Unit) => True) (fun _ t => hB (dC, dI) (va_A (w9 ad ca dom σ) sz) ad ca dom σ' t) (va_A (w9 ad ca dom σ) sz)) 0 0 (va_A (w9 ad ca dom σ) sz) := by
  refine Met.ofW (cc := cP_failAhead) (maxL := 2) (ret := none) (by decide) rfl ?_
  intro p e s m args below meth c s₁ B hml hv
  obtain ⟨rfl, hv⟩ := hv
  have hx := B.exec
  have hb := B.bytes
  have hr := B.returns
  have hts : ∀ w ∈ aw, w.before _ s = true := fun w h => atoms_spec (ws := (.code yP_failAhead cP_failAhead 2 none :: aw)) B.pre w (List.mem_cons_of_mem _ h)
  have hown : s.vm.findClass RP = some m.cls := findClass_of_methodNamed B.named
  have hlocks := B.notSynchronized
  obtain ⟨hsz, hP, hK, hD0, hG⟩ := hv
  subst hsz
  have hD := hD0.self (sz := s.heap.size)
  generalize hAe : va_A (w9 ad ca dom σ) s.heap.size = A at hD ⊢
  have hA : ∀ q : Nat, s.heap.size ≤ q → A q := fun q h => by rw [← hAe]; exact Or.inr h
  obtain ⟨H, hH⟩ : ∃ H, H = s.heap := ⟨_, rfl⟩
  have hS : va_S A s.heap H [] := by rw [hH]; exact va_S.rf
  rw [← hH] at hP ⊢
  unfold P_failAhead at hf
  have hl := lv_entry ([.ref (ad 3 0), .int a1]) (n := 2) (Nat.le_of_ble_eq_true rfl)
  rw [lg_entry_eq]
  generalize (lg_sl ([.ref (ad 3 0), .int a1]) ++ List.replicate (2 - (lg_sl ([.ref (ad 3 0), .int a1])).length) Slot.unset).toArray = ls at hl ⊢
  have hl : lv_has ls 2 [(0, .ref (ad 3 0)), (1, .int a1)] := hl
  refine lv_aload_n (pc := 0) hx hb dP_failAhead_0 rfl (lv_at hl 0 rfl) ?_
  refine lv_iconst (pc := 1) (v := 1) hx hb dP_failAhead_1 (by decide) ?_
  obtain ⟨q2, hq2, eq2⟩ := at_3 (ad := ad) (ca := ca) (σ := σ) hm0
  refine va_put (D := (dC, dI)) (cl := kCl) (ci := 3) (v := .int 1) (ty := .boolean) (C := RP) (T := TP) (N := 6) (pc := 2) hx hb hts inP tyP tyP_ok nmP hown hK.1 hP hD hS q2 eq2 rfl 4 (by decide) (hts _ wd_256) (fun _ h9 => h9) rfl (by decide +kernel) (rfl) (rfl) (Nat.le_of_ble_eq_true rfl) dP_failAhead_2 (fun H locs hP hD hS => ?_)
  obtain ⟨σ1, hσ1, hf⟩ := lt_9 hf
  obtain ⟨hP, hD⟩ := w9_rI 404 rfl hN hq2 hσ1 (pu_404) hP hD
  have hC : clo dom σ1.2.2 := by rw [hσ1]; exact hC
  refine lv_aload_n (pc := 5) hx hb dP_failAhead_5 rfl (lv_at hl 0 rfl) ?_
  refine lv_iload_n (pc := 6) hx hb dP_failAhead_6 rfl (lv_at hl 1 rfl) ?_
  obtain ⟨q4, hq4, eq4⟩ := at_3 (ad := ad) (ca := ca) (σ := σ1) hm0
  refine va_put (D := (dC, dI)) (cl := kCl) (ci := 3) (v := .int a1) (ty := .int) (C := RP) (T := TP) (N := 6) (pc := 7) hx hb hts inP tyP tyP_ok nmP hown hK.1 hP hD hS q4 eq4 rfl 5 (by decide) (hts _ wd_257) (fun _ h9 => h9) rfl (by decide +kernel) (rfl) (rfl) (Nat.le_of_ble_eq_true rfl) dP_failAhead_7 (fun H locs hP hD hS => ?_)
  obtain ⟨σ3, hσ3, hf⟩ := lt_9 hf
  obtain ⟨hP, hD⟩ := w9_rI 405 rfl hN hq4 hσ3 (pu_405) hP hD
  have hC : clo dom σ3.2.2 := by rw [hσ3]; exact hC
  obtain ⟨h8, h9⟩ := Prod.mk.inj (Option.some.inj hf)
  subst h9
  exact W.vret (pc := 10) hx hb hr (fun t ht hW => ⟨⟨(), rfl, trivial, by rw [ht]; exact hP, hD, hC⟩, hS.F ht⟩) hS.2.2 dP_failAhead_10
def P_switchOn (σ : hT) : Option (Unit × hT) := lt9 (sI σ 403 0 0 0) fun σ1 => lt9 (sI σ1 404 0 0 0) fun σ3 => some ((), σ3)
set_option maxHeartbeats 4000000 in
set_option maxRecDepth 100000 in
theorem t_P_switchOn (l : Launch) (dC : Nat → ClassId) (dI : Nat → Nat → Nat) (ad : Nat → Nat → Nat) (ca : Nat → Nat → ClassId) (dom : List (Nat × Nat)) (sz : Nat) (σ : hT) (hm0 : (3, 0) ∈ dom) (hN : dom.Nodup) (hC : clo dom σ.2.2) (ρ : Unit) (σ' : hT) (hf : P_switchOn σ = some (ρ, σ')) : Met l yP_switchOn (.code yP_switchOn cP_switchOn 1 none :: aw) ({ frames := 0, cells := 0, slots := 0, locals := 0 }) (hW (dC, dI) sz ad ca dom σ [.ref (ad 3 0)]) (va_Qv (fun (_ : Unit) => True) (fun _ t => hB (dC, dI) (va_A (w9 ad ca dom σ) sz) ad ca dom σ' t) (va_A (w9 ad ca dom σ) sz)) 0 0 (va_A (w9 ad ca dom σ) sz) := by
  refine Met.ofW (cc := cP_switchOn) (maxL := 1) (ret := none) (by decide) rfl ?_
  intro p e s m args below meth c s₁ B hml hv
  obtain ⟨rfl, hv⟩ := hv
  have hx := B.exec
  have hb := B.bytes
  have hr := B.returns
  have hts : ∀ w ∈ aw, w.before _ s = true := fun w h => atoms_spec (ws := (.code yP_switchOn cP_switchOn 1 none :: aw)) B.pre w (List.mem_cons_of_mem _ h)
  have hown : s.vm.findClass RP = some m.cls := findClass_of_methodNamed B.named
  have hlocks := B.notSynchronized
  obtain ⟨hsz, hP, hK, hD0, hG⟩ := hv
  subst hsz
  have hD := hD0.self (sz := s.heap.size)
  generalize hAe : va_A (w9 ad ca dom σ) s.heap.size = A at hD ⊢
  have hA : ∀ q : Nat, s.heap.size ≤ q → A q := fun q h => by rw [← hAe]; exact Or.inr h
  obtain ⟨H, hH⟩ : ∃ H, H = s.heap := ⟨_, rfl⟩
  have hS : va_S A s.heap H [] := by rw [hH]; exact va_S.rf
  rw [← hH] at hP ⊢
  unfold P_switchOn at hf
  have hl := lv_entry ([.ref (ad 3 0)]) (n := 1) (Nat.le_of_ble_eq_true rfl)
  rw [lg_entry_eq]
  generalize (lg_sl ([.ref (ad 3 0)]) ++ List.replicate (1 - (lg_sl ([.ref (ad 3 0)])).length) Slot.unset).toArray = ls at hl ⊢
  have hl : lv_has ls 1 [(0, .ref (ad 3 0))] := hl
  refine lv_aload_n (pc := 0) hx hb dP_switchOn_0 rfl (lv_at hl 0 rfl) ?_
  refine lv_iconst (pc := 1) (v := 0) hx hb dP_switchOn_1 (by decide) ?_
  obtain ⟨q2, hq2, eq2⟩ := at_3 (ad := ad) (ca := ca) (σ := σ) hm0
  refine va_put (D := (dC, dI)) (cl := kCl) (ci := 3) (v := .int 0) (ty := .boolean) (C := RP) (T := TP) (N := 6) (pc := 2) hx hb hts inP tyP tyP_ok nmP hown hK.1 hP hD hS q2 eq2 rfl 3 (by decide) (hts _ wd_258) (fun _ h9 => h9) rfl (by decide +kernel) (rfl) (rfl) (Nat.le_of_ble_eq_true rfl) dP_switchOn_2 (fun H locs hP hD hS => ?_)
  obtain ⟨σ1, hσ1, hf⟩ := lt_9 hf
  obtain ⟨hP, hD⟩ := w9_rI 403 rfl hN hq2 hσ1 (pu_403) hP hD
  have hC : clo dom σ1.2.2 := by rw [hσ1]; exact hC
  refine lv_aload_n (pc := 5) hx hb dP_switchOn_5 rfl (lv_at hl 0 rfl) ?_
  refine lv_iconst (pc := 6) (v := 0) hx hb dP_switchOn_6 (by decide) ?_
  obtain ⟨q4, hq4, eq4⟩ := at_3 (ad := ad) (ca := ca) (σ := σ1) hm0
  refine va_put (D := (dC, dI)) (cl := kCl) (ci := 3) (v := .int 0) (ty := .boolean) (C := RP) (T := TP) (N := 6) (pc := 7) hx hb hts inP tyP tyP_ok nmP hown hK.1 hP hD hS q4 eq4 rfl 4 (by decide) (hts _ wd_256) (fun _ h9 => h9) rfl (by decide +kernel) (rfl) (rfl) (Nat.le_of_ble_eq_true rfl) dP_switchOn_7 (fun H locs hP hD hS => ?_)
  obtain ⟨σ3, hσ3, hf⟩ := lt_9 hf
  obtain ⟨hP, hD⟩ := w9_rI 404 rfl hN hq4 hσ3 (pu_404) hP hD
  have hC : clo dom σ3.2.2 := by rw [hσ3]; exact hC
  obtain ⟨h8, h9⟩ := Prod.mk.inj (Option.some.inj hf)
  subst h9
  exact W.vret (pc := 10) hx hb hr (fun t ht hW => ⟨⟨(), rfl, trivial, by rw [ht]; exact hP, hD, hC⟩, hS.F ht⟩) hS.2.2 dP_switchOn_10
def P_failsBy (σ : hT) (a1 : Int32) : Int32 := if (xI σ 404 0 0) = 0 then 0 else if a1 ≤ (xI σ 405 0 0) then 0 else 1
set_option maxHeartbeats 4000000 in
set_option maxRecDepth 100000 in
theorem t_P_failsBy (l : Launch) (dC : Nat → ClassId) (dI : Nat → Nat → Nat) (ad : Nat → Nat → Nat) (ca : Nat → Nat → ClassId) (dom : List (Nat × Nat)) (σ : hT) (a1 : Int32) (hm0 : (3, 0) ∈ dom) (hN : dom.Nodup) (hC : clo dom σ.2.2) (ρ : Int32) (hf : P_failsBy σ a1 = ρ) : Met l yP_failsBy (.code yP_failsBy cP_failsBy 2 (some .boolean) :: aw) ({ frames := 0, cells := 0, slots := 0, locals := 0 }) (hR (dC, dI) ad ca dom σ [.ref (ad 3 0), .int a1]) (vp_Si (fun r => r = ρ)) 0 0 (fun _ => False) := by
  refine Met.ofW (cc := cP_failsBy) (maxL := 2) (ret := (some .boolean)) (by decide) rfl ?_
  intro p e s m args below meth c s₁ B hml hv
  obtain ⟨rfl, hv⟩ := hv
  have hx := B.exec
  have hb := B.bytes
  have hr := B.returns
  have hts : ∀ w ∈ aw, w.before _ s = true := fun w h => atoms_spec (ws := (.code yP_failsBy cP_failsBy 2 (some .boolean) :: aw)) B.pre w (List.mem_cons_of_mem _ h)
  have hown : s.vm.findClass RP = some m.cls := findClass_of_methodNamed B.named
  have hlocks := B.notSynchronized
  obtain ⟨hP, hK, hG⟩ := hv
  obtain ⟨H, hH⟩ : ∃ H, H = s.heap := ⟨_, rfl⟩
  rw [← hH] at hP ⊢
  unfold P_failsBy at hf
  have hl := lv_entry ([.ref (ad 3 0), .int a1]) (n := 2) (Nat.le_of_ble_eq_true rfl)
  rw [lg_entry_eq]
  generalize (lg_sl ([.ref (ad 3 0), .int a1]) ++ List.replicate (2 - (lg_sl ([.ref (ad 3 0), .int a1])).length) Slot.unset).toArray = ls at hl ⊢
  have hl : lv_has ls 2 [(0, .ref (ad 3 0)), (1, .int a1)] := hl
  refine lv_aload_n (pc := 0) hx hb dP_failsBy_0 rfl (lv_at hl 0 rfl) ?_
  obtain ⟨q1, hq1, eq1⟩ := at_3 (ad := ad) (ca := ca) (σ := σ) hm0
  refine va_get (D := (dC, dI)) (cl := kCl) (C := RP) (T := TP) (N := 6) (pc := 1) hx hb hts inP hown hK.1 hP q1 eq1 rfl 4 (by decide) (hts _ wd_256) (fun _ h9 => h9) rfl dP_failsBy_1 ?_
  refine lv_if_eq (pc := 4) (tgt := 19) hx hb dP_failsBy_4 rfl (fun h2 => ?_) (fun h2 => ?_)
  · replace hf := ite_t h2 hf
    refine lv_iconst (pc := 19) (v := 0) hx hb dP_failsBy_19 (by decide) ?_
    exact W.zret (pc := 20) hx hb hr (rfl) (fun t ht hW => ⟨_, rfl, hf, ht.trans hH⟩) (fun q h => nomatch h) dP_failsBy_20
  · replace hf := ite_f h2 hf
    refine lv_iload_n (pc := 7) hx hb dP_failsBy_7 rfl (lv_at hl 1 rfl) ?_
    refine lv_aload_n (pc := 8) hx hb dP_failsBy_8 rfl (lv_at hl 0 rfl) ?_
    obtain ⟨q3, hq3, eq3⟩ := at_3 (ad := ad) (ca := ca) (σ := σ) hm0
    refine va_get (D := (dC, dI)) (cl := kCl) (C := RP) (T := TP) (N := 6) (pc := 9) hx hb hts inP hown hK.1 hP q3 eq3 rfl 5 (by decide) (hts _ wd_257) (fun _ h9 => h9) rfl dP_failsBy_9 ?_
    refine lv_icmp_le (pc := 12) (tgt := 19) hx hb dP_failsBy_12 rfl (fun h4 => ?_) (fun h4 => ?_)
    · replace hf := ite_t h4 hf
      refine lv_iconst (pc := 19) (v := 0) hx hb dP_failsBy_19 (by decide) ?_
      exact W.zret (pc := 20) hx hb hr (rfl) (fun t ht hW => ⟨_, rfl, hf, ht.trans hH⟩) (fun q h => nomatch h) dP_failsBy_20
    · replace hf := ite_f h4 hf
      refine lv_iconst (pc := 15) (v := 1) hx hb dP_failsBy_15 (by decide) ?_
      refine lv_goto (pc := 16) (tgt := 20) hx hb dP_failsBy_16 rfl ?_
      exact W.zret (pc := 20) hx hb hr (rfl) (fun t ht hW => ⟨_, rfl, hf, ht.trans hH⟩) (fun q h => nomatch h) dP_failsBy_20
def P_write (σ : hT) (a1 : Int32) : Option (Unit × hT) := lt9 (sI σ 400 0 0 ((xI σ 400 0 0) - a1)) fun σ2 => lt9 (sI σ2 401 0 0 ((xI σ2 401 0 0) + 1)) fun σ5 => if (xI σ5 404 0 0) = 0 then some ((), σ5) else lt9 (sI σ5 405 0 0 ((xI σ5 405 0 0) - a1)) fun σ10 => some ((), σ10)
set_option maxHeartbeats 4000000 in
set_option maxRecDepth 100000 in
theorem t_P_write (l : Launch) (dC : Nat → ClassId) (dI : Nat → Nat → Nat) (ad : Nat → Nat → Nat) (ca : Nat → Nat → ClassId) (dom : List (Nat × Nat)) (sz : Nat) (σ : hT) (a1 : Int32) (hm0 : (3, 0) ∈ dom) (hN : dom.Nodup) (hC : clo dom σ.2.2) (ρ : Unit) (σ' : hT) (hf : P_write σ a1 = some (ρ, σ')) : Met l yP_write (.code yP_write cP_write 2 none :: aw) ({ frames := 0, cells := 0, slots := 0, locals := 0 }) (hW (dC, dI) sz ad ca dom σ [.ref (ad 3 0), .int a1]) (va_Qv (fun (_ : Unit) => True) (fun _ t => hB (dC, dI) (va_A (w9 ad ca dom σ) sz) ad ca dom σ' t) (va_A (w9 ad ca dom σ) sz)) 0 0 (va_A (w9 ad ca dom σ) sz) := by
  refine Met.ofW (cc := cP_write) (maxL := 2) (ret := none) (by decide) rfl ?_
  intro p e s m args below meth c s₁ B hml hv
  obtain ⟨rfl, hv⟩ := hv
  have hx := B.exec
  have hb := B.bytes
  have hr := B.returns
  have hts : ∀ w ∈ aw, w.before _ s = true := fun w h => atoms_spec (ws := (.code yP_write cP_write 2 none :: aw)) B.pre w (List.mem_cons_of_mem _ h)
  have hown : s.vm.findClass RP = some m.cls := findClass_of_methodNamed B.named
  have hlocks := B.notSynchronized
  obtain ⟨hsz, hP, hK, hD0, hG⟩ := hv
  subst hsz
  have hD := hD0.self (sz := s.heap.size)
  generalize hAe : va_A (w9 ad ca dom σ) s.heap.size = A at hD ⊢
  have hA : ∀ q : Nat, s.heap.size ≤ q → A q := fun q h => by rw [← hAe]; exact Or.inr h
  obtain ⟨H, hH⟩ : ∃ H, H = s.heap := ⟨_, rfl⟩
  have hS : va_S A s.heap H [] := by rw [hH]; exact va_S.rf
  rw [← hH] at hP ⊢
  unfold P_write at hf
  have hl := lv_entry ([.ref (ad 3 0), .int a1]) (n := 2) (Nat.le_of_ble_eq_true rfl)
  rw [lg_entry_eq]
  generalize (lg_sl ([.ref (ad 3 0), .int a1]) ++ List.replicate (2 - (lg_sl ([.ref (ad 3 0), .int a1])).length) Slot.unset).toArray = ls at hl ⊢
  have hl : lv_has ls 2 [(0, .ref (ad 3 0)), (1, .int a1)] := hl
  refine lv_aload_n (pc := 0) hx hb dP_write_0 rfl (lv_at hl 0 rfl) ?_
  refine lv_dup (pc := 1) hx hb dP_write_1 rfl ?_
  obtain ⟨q1, hq1, eq1⟩ := at_3 (ad := ad) (ca := ca) (σ := σ) hm0
  refine va_get (D := (dC, dI)) (cl := kCl) (C := RP) (T := TP) (N := 6) (pc := 2) hx hb hts inP hown hK.1 hP q1 eq1 rfl 0 (by decide) (hts _ wd_259) (fun _ h9 => h9) rfl dP_write_2 ?_
  refine lv_iload_n (pc := 5) hx hb dP_write_5 rfl (lv_at hl 1 rfl) ?_
  refine lv_isub (pc := 6) hx hb dP_write_6 ?_
  obtain ⟨q3, hq3, eq3⟩ := at_3 (ad := ad) (ca := ca) (σ := σ) hm0
  refine va_put (D := (dC, dI)) (cl := kCl) (ci := 3) (v := .int ((xI σ 400 0 0) - a1)) (ty := .int) (C := RP) (T := TP) (N := 6) (pc := 7) hx hb hts inP tyP tyP_ok nmP hown hK.1 hP hD hS q3 eq3 rfl 0 (by decide) (hts _ wd_259) (fun _ h9 => h9) rfl (by decide +kernel) (rfl) (rfl) (Nat.le_of_ble_eq_true rfl) dP_write_7 (fun H locs hP hD hS => ?_)
  obtain ⟨σ2, hσ2, hf⟩ := lt_9 hf
  obtain ⟨hP, hD⟩ := w9_rI 400 rfl hN hq3 hσ2 (pu_400) hP hD
  have hC : clo dom σ2.2.2 := by rw [hσ2]; exact hC
  refine lv_aload_n (pc := 10) hx hb dP_write_10 rfl (lv_at hl 0 rfl) ?_
  refine lv_dup (pc := 11) hx hb dP_write_11 rfl ?_
  obtain ⟨q4, hq4, eq4⟩ := at_3 (ad := ad) (ca := ca) (σ := σ2) hm0
  refine va_get (D := (dC, dI)) (cl := kCl) (C := RP) (T := TP) (N := 6) (pc := 12) hx hb hts inP hown hK.1 hP q4 eq4 rfl 1 (by decide) (hts _ wd_260) (fun _ h9 => h9) rfl dP_write_12 ?_
  refine lv_iconst (pc := 15) (v := 1) hx hb dP_write_15 (by decide) ?_
  refine lv_iadd (pc := 16) hx hb dP_write_16 ?_
  obtain ⟨q6, hq6, eq6⟩ := at_3 (ad := ad) (ca := ca) (σ := σ2) hm0
  refine va_put (D := (dC, dI)) (cl := kCl) (ci := 3) (v := .int ((xI σ2 401 0 0) + 1)) (ty := .int) (C := RP) (T := TP) (N := 6) (pc := 17) hx hb hts inP tyP tyP_ok nmP hown hK.1 hP hD hS q6 eq6 rfl 1 (by decide) (hts _ wd_260) (fun _ h9 => h9) rfl (by decide +kernel) (rfl) (rfl) (Nat.le_of_ble_eq_true rfl) dP_write_17 (fun H locs hP hD hS => ?_)
  obtain ⟨σ5, hσ5, hf⟩ := lt_9 hf
  obtain ⟨hP, hD⟩ := w9_rI 401 rfl hN hq6 hσ5 (pu_401) hP hD
  have hC : clo dom σ5.2.2 := by rw [hσ5]; exact hC
  refine lv_aload_n (pc := 20) hx hb dP_write_20 rfl (lv_at hl 0 rfl) ?_
  obtain ⟨q7, hq7, eq7⟩ := at_3 (ad := ad) (ca := ca) (σ := σ5) hm0
  refine va_get (D := (dC, dI)) (cl := kCl) (C := RP) (T := TP) (N := 6) (pc := 21) hx hb hts inP hown hK.1 hP q7 eq7 rfl 4 (by decide) (hts _ wd_256) (fun _ h9 => h9) rfl dP_write_21 ?_
  refine lv_if_eq (pc := 24) (tgt := 37) hx hb dP_write_24 rfl (fun h8 => ?_) (fun h8 => ?_)
  · replace hf := ite_t h8 hf
    obtain ⟨h8, h9⟩ := Prod.mk.inj (Option.some.inj hf)
    subst h9
    exact W.vret (pc := 37) hx hb hr (fun t ht hW => ⟨⟨(), rfl, trivial, by rw [ht]; exact hP, hD, hC⟩, hS.F ht⟩) hS.2.2 dP_write_37
  · replace hf := ite_f h8 hf
    refine lv_aload_n (pc := 27) hx hb dP_write_27 rfl (lv_at hl 0 rfl) ?_
    refine lv_dup (pc := 28) hx hb dP_write_28 rfl ?_
    obtain ⟨q9, hq9, eq9⟩ := at_3 (ad := ad) (ca := ca) (σ := σ5) hm0
    refine va_get (D := (dC, dI)) (cl := kCl) (C := RP) (T := TP) (N := 6) (pc := 29) hx hb hts inP hown hK.1 hP q9 eq9 rfl 5 (by decide) (hts _ wd_257) (fun _ h9 => h9) rfl dP_write_29 ?_
    refine lv_iload_n (pc := 32) hx hb dP_write_32 rfl (lv_at hl 1 rfl) ?_
    refine lv_isub (pc := 33) hx hb dP_write_33 ?_
    obtain ⟨q11, hq11, eq11⟩ := at_3 (ad := ad) (ca := ca) (σ := σ5) hm0
    refine va_put (D := (dC, dI)) (cl := kCl) (ci := 3) (v := .int ((xI σ5 405 0 0) - a1)) (ty := .int) (C := RP) (T := TP) (N := 6) (pc := 34) hx hb hts inP tyP tyP_ok nmP hown hK.1 hP hD hS q11 eq11 rfl 5 (by decide) (hts _ wd_257) (fun _ h9 => h9) rfl (by decide +kernel) (rfl) (rfl) (Nat.le_of_ble_eq_true rfl) dP_write_34 (fun H locs hP hD hS => ?_)
    obtain ⟨σ10, hσ10, hf⟩ := lt_9 hf
    obtain ⟨hP, hD⟩ := w9_rI 405 rfl hN hq11 hσ10 (pu_405) hP hD
    have hC : clo dom σ10.2.2 := by rw [hσ10]; exact hC
    obtain ⟨h8, h9⟩ := Prod.mk.inj (Option.some.inj hf)
    subst h9
    exact W.vret (pc := 37) hx hb hr (fun t ht hW => ⟨⟨(), rfl, trivial, by rw [ht]; exact hP, hD, hC⟩, hS.F ht⟩) hS.2.2 dP_write_37
def P_areLow (σ : hT) : Int32 := if 40 ≤ (xI σ 400 0 0) then 0 else 1
set_option maxHeartbeats 4000000 in
set_option maxRecDepth 100000 in
theorem t_P_areLow (l : Launch) (dC : Nat → ClassId) (dI : Nat → Nat → Nat) (ad : Nat → Nat → Nat) (ca : Nat → Nat → ClassId) (dom : List (Nat × Nat)) (σ : hT) (hm0 : (3, 0) ∈ dom) (hN : dom.Nodup) (hC : clo dom σ.2.2) (ρ : Int32) (hf : P_areLow σ = ρ) : Met l yP_areLow (.code yP_areLow cP_areLow 1 (some .boolean) :: aw) ({ frames := 0, cells := 0, slots := 0, locals := 0 }) (hR (dC, dI) ad ca dom σ [.ref (ad 3 0)]) (vp_Si (fun r => r = ρ)) 0 0 (fun _ => False) := by
  refine Met.ofW (cc := cP_areLow) (maxL := 1) (ret := (some .boolean)) (by decide) rfl ?_
  intro p e s m args below meth c s₁ B hml hv
  obtain ⟨rfl, hv⟩ := hv
  have hx := B.exec
  have hb := B.bytes
  have hr := B.returns
  have hts : ∀ w ∈ aw, w.before _ s = true := fun w h => atoms_spec (ws := (.code yP_areLow cP_areLow 1 (some .boolean) :: aw)) B.pre w (List.mem_cons_of_mem _ h)
  have hown : s.vm.findClass RP = some m.cls := findClass_of_methodNamed B.named
  have hlocks := B.notSynchronized
  obtain ⟨hP, hK, hG⟩ := hv
  obtain ⟨H, hH⟩ : ∃ H, H = s.heap := ⟨_, rfl⟩
  rw [← hH] at hP ⊢
  unfold P_areLow at hf
  have hl := lv_entry ([.ref (ad 3 0)]) (n := 1) (Nat.le_of_ble_eq_true rfl)
  rw [lg_entry_eq]
  generalize (lg_sl ([.ref (ad 3 0)]) ++ List.replicate (1 - (lg_sl ([.ref (ad 3 0)])).length) Slot.unset).toArray = ls at hl ⊢
  have hl : lv_has ls 1 [(0, .ref (ad 3 0))] := hl
  refine lv_aload_n (pc := 0) hx hb dP_areLow_0 rfl (lv_at hl 0 rfl) ?_
  obtain ⟨q1, hq1, eq1⟩ := at_3 (ad := ad) (ca := ca) (σ := σ) hm0
  refine va_get (D := (dC, dI)) (cl := kCl) (C := RP) (T := TP) (N := 6) (pc := 1) hx hb hts inP hown hK.1 hP q1 eq1 rfl 0 (by decide) (hts _ wd_259) (fun _ h9 => h9) rfl dP_areLow_1 ?_
  refine lv_bipush (pc := 4) (v := 40) hx hb dP_areLow_4 (by decide) ?_
  refine lv_icmp_ge (pc := 6) (tgt := 13) hx hb dP_areLow_6 rfl (fun h2 => ?_) (fun h2 => ?_)
  · replace hf := ite_t h2 hf
    refine lv_iconst (pc := 13) (v := 0) hx hb dP_areLow_13 (by decide) ?_
    exact W.zret (pc := 14) hx hb hr (rfl) (fun t ht hW => ⟨_, rfl, hf, ht.trans hH⟩) (fun q h => nomatch h) dP_areLow_14
  · replace hf := ite_f h2 hf
    refine lv_iconst (pc := 9) (v := 1) hx hb dP_areLow_9 (by decide) ?_
    refine lv_goto (pc := 10) (tgt := 14) hx hb dP_areLow_10 rfl ?_
    exact W.zret (pc := 14) hx hb hr (rfl) (fun t ht hW => ⟨_, rfl, hf, ht.trans hH⟩) (fun q h => nomatch h) dP_areLow_14
def P_copyForward (σ : hT) (a1 : Int32) : Option (Unit × hT) := if (400 - a1) < 40 then some ((), σ) else lt9 (sI σ 400 0 0 (400 - a1)) fun σ2 => lt9 (sI σ2 402 0 0 ((xI σ2 402 0 0) + 1)) fun σ5 => some ((), σ5)
set_option maxHeartbeats 4000000 in
set_option maxRecDepth 100000 in
theorem t_P_copyForward (l : Launch) (dC : Nat → ClassId) (dI : Nat → Nat → Nat) (ad : Nat → Nat → Nat) (ca : Nat → Nat → ClassId) (dom : List (Nat × Nat)) (sz : Nat) (σ : hT) (a1 : Int32) (hm0 : (3, 0) ∈ dom) (hN : dom.Nodup) (hC : clo dom σ.2.2) (ρ : Unit) (σ' : hT) (hf : P_copyForward σ a1 = some (ρ, σ')) : Met l yP_copyForward (.code yP_copyForward cP_copyForward 2 none :: aw) ({ frames := 0, cells := 0, slots := 0, locals := 0 }) (hW (dC, dI) sz ad ca dom σ [.ref (ad 3 0), .int a1]) (va_Qv (fun (_ : Unit) => True) (fun _ t => hB (dC, dI) (va_A (w9 ad ca dom σ) sz) ad ca dom σ' t) (va_A (w9 ad ca dom σ) sz)) 0 0 (va_A (w9 ad ca dom σ) sz) := by
  refine Met.ofW (cc := cP_copyForward) (maxL := 2) (ret := none) (by decide) rfl ?_
  intro p e s m args below meth c s₁ B hml hv
  obtain ⟨rfl, hv⟩ := hv
  have hx := B.exec
  have hb := B.bytes
  have hr := B.returns
  have hts : ∀ w ∈ aw, w.before _ s = true := fun w h => atoms_spec (ws := (.code yP_copyForward cP_copyForward 2 none :: aw)) B.pre w (List.mem_cons_of_mem _ h)
  have hown : s.vm.findClass RP = some m.cls := findClass_of_methodNamed B.named
  have hlocks := B.notSynchronized
  obtain ⟨hsz, hP, hK, hD0, hG⟩ := hv
  subst hsz
  have hD := hD0.self (sz := s.heap.size)
  generalize hAe : va_A (w9 ad ca dom σ) s.heap.size = A at hD ⊢
  have hA : ∀ q : Nat, s.heap.size ≤ q → A q := fun q h => by rw [← hAe]; exact Or.inr h
  obtain ⟨H, hH⟩ : ∃ H, H = s.heap := ⟨_, rfl⟩
  have hS : va_S A s.heap H [] := by rw [hH]; exact va_S.rf
  rw [← hH] at hP ⊢
  unfold P_copyForward at hf
  have hl := lv_entry ([.ref (ad 3 0), .int a1]) (n := 2) (Nat.le_of_ble_eq_true rfl)
  rw [lg_entry_eq]
  generalize (lg_sl ([.ref (ad 3 0), .int a1]) ++ List.replicate (2 - (lg_sl ([.ref (ad 3 0), .int a1])).length) Slot.unset).toArray = ls at hl ⊢
  have hl : lv_has ls 2 [(0, .ref (ad 3 0)), (1, .int a1)] := hl
  refine lv_sipush (pc := 0) (v := 400) hx hb dP_copyForward_0 (by decide) ?_
  refine lv_iload_n (pc := 3) hx hb dP_copyForward_3 rfl (lv_at hl 1 rfl) ?_
  refine lv_isub (pc := 4) hx hb dP_copyForward_4 ?_
  refine lv_bipush (pc := 5) (v := 40) hx hb dP_copyForward_5 (by decide) ?_
  refine lv_icmp_lt (pc := 7) (tgt := 29) hx hb dP_copyForward_7 rfl (fun h1 => ?_) (fun h1 => ?_)
  · replace hf := ite_t h1 hf
    obtain ⟨h8, h9⟩ := Prod.mk.inj (Option.some.inj hf)
    subst h9
    exact W.vret (pc := 29) hx hb hr (fun t ht hW => ⟨⟨(), rfl, trivial, by rw [ht]; exact hP, hD, hC⟩, hS.F ht⟩) hS.2.2 dP_copyForward_29
  · replace hf := ite_f h1 hf
    refine lv_aload_n (pc := 10) hx hb dP_copyForward_10 rfl (lv_at hl 0 rfl) ?_
    refine lv_sipush (pc := 11) (v := 400) hx hb dP_copyForward_11 (by decide) ?_
    refine lv_iload_n (pc := 14) hx hb dP_copyForward_14 rfl (lv_at hl 1 rfl) ?_
    refine lv_isub (pc := 15) hx hb dP_copyForward_15 ?_
    obtain ⟨q3, hq3, eq3⟩ := at_3 (ad := ad) (ca := ca) (σ := σ) hm0
    refine va_put (D := (dC, dI)) (cl := kCl) (ci := 3) (v := .int (400 - a1)) (ty := .int) (C := RP) (T := TP) (N := 6) (pc := 16) hx hb hts inP tyP tyP_ok nmP hown hK.1 hP hD hS q3 eq3 rfl 0 (by decide) (hts _ wd_259) (fun _ h9 => h9) rfl (by decide +kernel) (rfl) (rfl) (Nat.le_of_ble_eq_true rfl) dP_copyForward_16 (fun H locs hP hD hS => ?_)
    obtain ⟨σ2, hσ2, hf⟩ := lt_9 hf
    obtain ⟨hP, hD⟩ := w9_rI 400 rfl hN hq3 hσ2 (pu_400) hP hD
    have hC : clo dom σ2.2.2 := by rw [hσ2]; exact hC
    refine lv_aload_n (pc := 19) hx hb dP_copyForward_19 rfl (lv_at hl 0 rfl) ?_
    refine lv_dup (pc := 20) hx hb dP_copyForward_20 rfl ?_
    obtain ⟨q4, hq4, eq4⟩ := at_3 (ad := ad) (ca := ca) (σ := σ2) hm0
    refine va_get (D := (dC, dI)) (cl := kCl) (C := RP) (T := TP) (N := 6) (pc := 21) hx hb hts inP hown hK.1 hP q4 eq4 rfl 2 (by decide) (hts _ wd_261) (fun _ h9 => h9) rfl dP_copyForward_21 ?_
    refine lv_iconst (pc := 24) (v := 1) hx hb dP_copyForward_24 (by decide) ?_
    refine lv_iadd (pc := 25) hx hb dP_copyForward_25 ?_
    obtain ⟨q6, hq6, eq6⟩ := at_3 (ad := ad) (ca := ca) (σ := σ2) hm0
    refine va_put (D := (dC, dI)) (cl := kCl) (ci := 3) (v := .int ((xI σ2 402 0 0) + 1)) (ty := .int) (C := RP) (T := TP) (N := 6) (pc := 26) hx hb hts inP tyP tyP_ok nmP hown hK.1 hP hD hS q6 eq6 rfl 2 (by decide) (hts _ wd_261) (fun _ h9 => h9) rfl (by decide +kernel) (rfl) (rfl) (Nat.le_of_ble_eq_true rfl) dP_copyForward_26 (fun H locs hP hD hS => ?_)
    obtain ⟨σ5, hσ5, hf⟩ := lt_9 hf
    obtain ⟨hP, hD⟩ := w9_rI 402 rfl hN hq6 hσ5 (pu_402) hP hD
    have hC : clo dom σ5.2.2 := by rw [hσ5]; exact hC
    obtain ⟨h8, h9⟩ := Prod.mk.inj (Option.some.inj hf)
    subst h9
    exact W.vret (pc := 29) hx hb hr (fun t ht hW => ⟨⟨(), rfl, trivial, by rw [ht]; exact hP, hD, hC⟩, hS.F ht⟩) hS.2.2 dP_copyForward_29
