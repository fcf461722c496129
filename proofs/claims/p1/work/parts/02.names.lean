abbrev RV : String := "DrawingVault"
abbrev RB : String := "DrawingVault$Baseline"
abbrev RK : String := "DrawingVault$ChunkSet"
abbrev RC : String := "DrawingVault$Content"
abbrev RD : String := "DrawingVault$Drawing"
abbrev RP : String := "DrawingVault$Pages"
abbrev RS : String := "DrawingVault$Revision"
abbrev RM : String := "DrawingVaultModel"
abbrev RL : String := "DrawingVaultLaw"
abbrev RA : String := "java/util/Arrays"
def TV : u_T := fun k => match k with
  | 0 => ("DrawingVault", "rightsOf", "[I", true)
  | 1 => ("DrawingVault", "drawings", "[LDrawingVault$Drawing;", true)
  | 2 => ("DrawingVault", "drawingCount", "I", false)
  | 3 => ("DrawingVault", "revisionCount", "I", false)
  | 4 => ("DrawingVault", "baselines", "[LDrawingVault$Baseline;", true)
  | 5 => ("DrawingVault", "draft", "LDrawingVault$Baseline;", false)
  | 6 => ("DrawingVault", "chunks", "LDrawingVault$ChunkSet;", true)
  | 7 => ("DrawingVault", "pages", "LDrawingVault$Pages;", true)
  | _ => ("DrawingVault", "reason", "I", false)
def tyV : Nat → FieldType := fun k => match k with
  | 0 => (.array .int)
  | 1 => (.array (.object "DrawingVault$Drawing"))
  | 2 => .int
  | 3 => .int
  | 4 => (.array (.object "DrawingVault$Baseline"))
  | 5 => (.object "DrawingVault$Baseline")
  | 6 => (.object "DrawingVault$ChunkSet")
  | 7 => (.object "DrawingVault$Pages")
  | _ => .int
theorem nmV : ∀ a, a < 9 → ∀ b, b < 9 → a ≠ b → (TV a).2.1 ≠ (TV b).2.1 := by decide +kernel
theorem tyV_ok : ∀ k, k < 9 → parseFieldDescriptor (TV k).2.2.1 = some (tyV k) := by decide +kernel
def TB : u_T := fun k => match k with
  | 0 => ("DrawingVault$Baseline", "revisionOf", "[I", true)
  | 1 => ("DrawingVault$Baseline", "order", "[I", true)
  | _ => ("DrawingVault$Baseline", "size", "I", false)
def tyB : Nat → FieldType := fun k => match k with
  | 0 => (.array .int)
  | 1 => (.array .int)
  | _ => .int
theorem nmB : ∀ a, a < 3 → ∀ b, b < 3 → a ≠ b → (TB a).2.1 ≠ (TB b).2.1 := by decide +kernel
theorem tyB_ok : ∀ k, k < 3 → parseFieldDescriptor (TB k).2.2.1 = some (tyB k) := by decide +kernel
def TK : u_T := fun k => match k with
  | 0 => ("DrawingVault$ChunkSet", "pieces", "[J", true)
  | 1 => ("DrawingVault$ChunkSet", "lengths", "[B", true)
  | _ => ("DrawingVault$ChunkSet", "size", "I", false)
def tyK : Nat → FieldType := fun k => match k with
  | 0 => (.array .long)
  | 1 => (.array .byte)
  | _ => .int
theorem nmK : ∀ a, a < 3 → ∀ b, b < 3 → a ≠ b → (TK a).2.1 ≠ (TK b).2.1 := by decide +kernel
theorem tyK_ok : ∀ k, k < 3 → parseFieldDescriptor (TK k).2.2.1 = some (tyK k) := by decide +kernel
def TP : u_T := fun k => match k with
  | 0 => ("DrawingVault$Pages", "free", "I", false)
  | 1 => ("DrawingVault$Pages", "commands", "I", false)
  | 2 => ("DrawingVault$Pages", "copiedForward", "I", false)
  | 3 => ("DrawingVault$Pages", "failed", "Z", false)
  | 4 => ("DrawingVault$Pages", "failureAhead", "Z", false)
  | _ => ("DrawingVault$Pages", "beforeFailure", "I", false)
def tyP : Nat → FieldType := fun k => match k with
  | 0 => .int
  | 1 => .int
  | 2 => .int
  | 3 => .boolean
  | 4 => .boolean
  | _ => .int
theorem nmP : ∀ a, a < 6 → ∀ b, b < 6 → a ≠ b → (TP a).2.1 ≠ (TP b).2.1 := by decide +kernel
theorem tyP_ok : ∀ k, k < 6 → parseFieldDescriptor (TP k).2.2.1 = some (tyP k) := by decide +kernel
def TM : u_T := fun k => match k with
  | 0 => ("DrawingVaultModel", "thrown", "I", false)
  | 1 => ("DrawingVaultModel", "reason", "I", false)
  | 2 => ("DrawingVaultModel", "now", "[I", true)
  | 3 => ("DrawingVaultModel", "kept", "[I", true)
  | 4 => ("DrawingVaultModel", "failed", "Z", false)
  | 5 => ("DrawingVaultModel", "powerLeft", "I", false)
  | 6 => ("DrawingVaultModel", "marked", "[Z", true)
  | 7 => ("DrawingVaultModel", "come", "[I", true)
  | 8 => ("DrawingVaultModel", "parts2", "Z", false)
  | 9 => ("DrawingVaultModel", "open", "Z", false)
  | _ => ("DrawingVaultModel", "seen", "[Z", true)
def tyM : Nat → FieldType := fun k => match k with
  | 0 => .int
  | 1 => .int
  | 2 => (.array .int)
  | 3 => (.array .int)
  | 4 => .boolean
  | 5 => .int
  | 6 => (.array .boolean)
  | 7 => (.array .int)
  | 8 => .boolean
  | 9 => .boolean
  | _ => (.array .boolean)
theorem nmM : ∀ a, a < 11 → ∀ b, b < 11 → a ≠ b → (TM a).2.1 ≠ (TM b).2.1 := by decide +kernel
theorem tyM_ok : ∀ k, k < 11 → parseFieldDescriptor (TM k).2.2.1 = some (tyM k) := by decide +kernel
abbrev kCl : List vw_C := [(RV, TV, 9), (RB, TB, 3), (RK, TK, 3), (RP, TP, 6), (RM, TM, 11)]
abbrev cV_isPerson : ByteArray := prog_1_method_42_code
abbrev yV_isPerson : MethodName := ⟨"DrawingVault", "isPerson", "(I)Z"⟩
theorem dV_isPerson_0 : decode cV_isPerson 0 = .ok (.iload_n 0, 1) := by decide +kernel
theorem dV_isPerson_1 : decode cV_isPerson 1 = .ok (.ifCond .lt 13, 3) := by decide +kernel
theorem dV_isPerson_4 : decode cV_isPerson 4 = .ok (.iload_n 0, 1) := by decide +kernel
theorem dV_isPerson_5 : decode cV_isPerson 5 = .ok (.bipush 16, 2) := by decide +kernel
theorem dV_isPerson_7 : decode cV_isPerson 7 = .ok (.if_icmp .ge 7, 3) := by decide +kernel
theorem dV_isPerson_10 : decode cV_isPerson 10 = .ok (.iconst 1, 1) := by decide +kernel
theorem dV_isPerson_11 : decode cV_isPerson 11 = .ok (.goto 4, 3) := by decide +kernel
theorem dV_isPerson_14 : decode cV_isPerson 14 = .ok (.iconst 0, 1) := by decide +kernel
theorem dV_isPerson_15 : decode cV_isPerson 15 = .ok (.ireturn, 1) := by decide +kernel
abbrev cV_hasRight : ByteArray := prog_1_method_43_code
abbrev yV_hasRight : MethodName := ⟨"DrawingVault", "hasRight", "(II)Z"⟩
theorem dV_hasRight_0 : decode cV_hasRight 0 = .ok (.iload_n 1, 1) := by decide +kernel
theorem dV_hasRight_1 : decode cV_hasRight 1 = .ok (.invokestatic 47, 3) := by decide +kernel
theorem dV_hasRight_4 : decode cV_hasRight 4 = .ok (.ifCond .eq 18, 3) := by decide +kernel
theorem dV_hasRight_7 : decode cV_hasRight 7 = .ok (.aload_n 0, 1) := by decide +kernel
theorem dV_hasRight_8 : decode cV_hasRight 8 = .ok (.getfield 9, 3) := by decide +kernel
theorem dV_hasRight_11 : decode cV_hasRight 11 = .ok (.iload_n 1, 1) := by decide +kernel
theorem dV_hasRight_12 : decode cV_hasRight 12 = .ok (.iaload, 1) := by decide +kernel
theorem dV_hasRight_13 : decode cV_hasRight 13 = .ok (.iload_n 2, 1) := by decide +kernel
theorem dV_hasRight_14 : decode cV_hasRight 14 = .ok (.iand, 1) := by decide +kernel
theorem dV_hasRight_15 : decode cV_hasRight 15 = .ok (.ifCond .eq 7, 3) := by decide +kernel
theorem dV_hasRight_22 : decode cV_hasRight 22 = .ok (.iconst 0, 1) := by decide +kernel
theorem dV_hasRight_23 : decode cV_hasRight 23 = .ok (.ireturn, 1) := by decide +kernel
abbrev cV_needPower : ByteArray := prog_1_method_25_code
abbrev yV_needPower : MethodName := ⟨"DrawingVault", "needPower", "()V"⟩
theorem dV_needPower_0 : decode cV_needPower 0 = .ok (.aload_n 0, 1) := by decide +kernel
theorem dV_needPower_1 : decode cV_needPower 1 = .ok (.getfield 40, 3) := by decide +kernel
theorem dV_needPower_4 : decode cV_needPower 4 = .ok (.getfield 230, 3) := by decide +kernel
theorem dV_needPower_7 : decode cV_needPower 7 = .ok (.ifCond .eq 11, 3) := by decide +kernel
theorem dV_needPower_18 : decode cV_needPower 18 = .ok (.return_, 1) := by decide +kernel
abbrev cV_drawingAt : ByteArray := prog_1_method_44_code
abbrev yV_drawingAt : MethodName := ⟨"DrawingVault", "drawingAt", "(I)LDrawingVault$Drawing;"⟩
theorem dV_drawingAt_0 : decode cV_drawingAt 0 = .ok (.iload_n 1, 1) := by decide +kernel
theorem dV_drawingAt_1 : decode cV_drawingAt 1 = .ok (.ifCond .lt 20, 3) := by decide +kernel
theorem dV_drawingAt_4 : decode cV_drawingAt 4 = .ok (.iload_n 1, 1) := by decide +kernel
theorem dV_drawingAt_5 : decode cV_drawingAt 5 = .ok (.aload_n 0, 1) := by decide +kernel
theorem dV_drawingAt_6 : decode cV_drawingAt 6 = .ok (.getfield 67, 3) := by decide +kernel
theorem dV_drawingAt_9 : decode cV_drawingAt 9 = .ok (.if_icmp .ge 12, 3) := by decide +kernel
theorem dV_drawingAt_21 : decode cV_drawingAt 21 = .ok (.aconst_null, 1) := by decide +kernel
theorem dV_drawingAt_22 : decode cV_drawingAt 22 = .ok (.areturn, 1) := by decide +kernel
abbrev cV_revisionAt : ByteArray := prog_1_method_45_code
abbrev yV_revisionAt : MethodName := ⟨"DrawingVault", "revisionAt", "(II)LDrawingVault$Revision;"⟩
theorem dV_revisionAt_0 : decode cV_revisionAt 0 = .ok (.aload_n 0, 1) := by decide +kernel
theorem dV_revisionAt_1 : decode cV_revisionAt 1 = .ok (.iload_n 1, 1) := by decide +kernel
theorem dV_revisionAt_2 : decode cV_revisionAt 2 = .ok (.invokevirtual 74, 3) := by decide +kernel
theorem dV_revisionAt_5 : decode cV_revisionAt 5 = .ok (.astore_n 3, 1) := by decide +kernel
theorem dV_revisionAt_6 : decode cV_revisionAt 6 = .ok (.aload_n 3, 1) := by decide +kernel
theorem dV_revisionAt_7 : decode cV_revisionAt 7 = .ok (.ifnull 20, 3) := by decide +kernel
theorem dV_revisionAt_27 : decode cV_revisionAt 27 = .ok (.aconst_null, 1) := by decide +kernel
theorem dV_revisionAt_28 : decode cV_revisionAt 28 = .ok (.areturn, 1) := by decide +kernel
abbrev cV_baselineAt : ByteArray := prog_1_method_46_code
abbrev yV_baselineAt : MethodName := ⟨"DrawingVault", "baselineAt", "(I)LDrawingVault$Baseline;"⟩
theorem dV_baselineAt_0 : decode cV_baselineAt 0 = .ok (.iload_n 1, 1) := by decide +kernel
theorem dV_baselineAt_1 : decode cV_baselineAt 1 = .ok (.ifCond .lt 18, 3) := by decide +kernel
theorem dV_baselineAt_4 : decode cV_baselineAt 4 = .ok (.iload_n 1, 1) := by decide +kernel
theorem dV_baselineAt_5 : decode cV_baselineAt 5 = .ok (.bipush 10, 2) := by decide +kernel
theorem dV_baselineAt_7 : decode cV_baselineAt 7 = .ok (.if_icmp .ge 12, 3) := by decide +kernel
theorem dV_baselineAt_10 : decode cV_baselineAt 10 = .ok (.aload_n 0, 1) := by decide +kernel
theorem dV_baselineAt_11 : decode cV_baselineAt 11 = .ok (.getfield 21, 3) := by decide +kernel
theorem dV_baselineAt_14 : decode cV_baselineAt 14 = .ok (.iload_n 1, 1) := by decide +kernel
theorem dV_baselineAt_15 : decode cV_baselineAt 15 = .ok (.aaload, 1) := by decide +kernel
theorem dV_baselineAt_16 : decode cV_baselineAt 16 = .ok (.goto 4, 3) := by decide +kernel
theorem dV_baselineAt_19 : decode cV_baselineAt 19 = .ok (.aconst_null, 1) := by decide +kernel
theorem dV_baselineAt_20 : decode cV_baselineAt 20 = .ok (.areturn, 1) := by decide +kernel
abbrev cV_outRefusal : ByteArray := prog_1_method_31_code
abbrev yV_outRefusal : MethodName := ⟨"DrawingVault", "outRefusal", "(LDrawingVault$Drawing;I)I"⟩
theorem dV_outRefusal_0 : decode cV_outRefusal 0 = .ok (.aload_n 0, 1) := by decide +kernel
theorem dV_outRefusal_1 : decode cV_outRefusal 1 = .ok (.iload_n 2, 1) := by decide +kernel
theorem dV_outRefusal_2 : decode cV_outRefusal 2 = .ok (.bipush 7, 2) := by decide +kernel
theorem dV_outRefusal_4 : decode cV_outRefusal 4 = .ok (.invokevirtual 284, 3) := by decide +kernel
theorem dV_outRefusal_7 : decode cV_outRefusal 7 = .ok (.ifCond .ne 5, 3) := by decide +kernel
theorem dV_outRefusal_10 : decode cV_outRefusal 10 = .ok (.iconst 1, 1) := by decide +kernel
theorem dV_outRefusal_11 : decode cV_outRefusal 11 = .ok (.ireturn, 1) := by decide +kernel
abbrev cV_copyRefusal : ByteArray := prog_1_method_32_code
abbrev yV_copyRefusal : MethodName := ⟨"DrawingVault", "copyRefusal", "(LDrawingVault$Drawing;I)I"⟩
theorem dV_copyRefusal_0 : decode cV_copyRefusal 0 = .ok (.aload_n 0, 1) := by decide +kernel
theorem dV_copyRefusal_1 : decode cV_copyRefusal 1 = .ok (.iload_n 2, 1) := by decide +kernel
theorem dV_copyRefusal_2 : decode cV_copyRefusal 2 = .ok (.bipush 7, 2) := by decide +kernel
theorem dV_copyRefusal_4 : decode cV_copyRefusal 4 = .ok (.invokevirtual 284, 3) := by decide +kernel
theorem dV_copyRefusal_7 : decode cV_copyRefusal 7 = .ok (.ifCond .ne 5, 3) := by decide +kernel
theorem dV_copyRefusal_10 : decode cV_copyRefusal 10 = .ok (.iconst 1, 1) := by decide +kernel
theorem dV_copyRefusal_11 : decode cV_copyRefusal 11 = .ok (.ireturn, 1) := by decide +kernel
abbrev cV_drawingRefusal : ByteArray := prog_1_method_30_code
abbrev yV_drawingRefusal : MethodName := ⟨"DrawingVault", "drawingRefusal", "(I)I"⟩
theorem dV_drawingRefusal_0 : decode cV_drawingRefusal 0 = .ok (.aload_n 0, 1) := by decide +kernel
theorem dV_drawingRefusal_1 : decode cV_drawingRefusal 1 = .ok (.iload_n 1, 1) := by decide +kernel
theorem dV_drawingRefusal_2 : decode cV_drawingRefusal 2 = .ok (.iconst 1, 1) := by decide +kernel
theorem dV_drawingRefusal_3 : decode cV_drawingRefusal 3 = .ok (.invokevirtual 284, 3) := by decide +kernel
theorem dV_drawingRefusal_6 : decode cV_drawingRefusal 6 = .ok (.ifCond .ne 5, 3) := by decide +kernel
theorem dV_drawingRefusal_9 : decode cV_drawingRefusal 9 = .ok (.iconst 1, 1) := by decide +kernel
theorem dV_drawingRefusal_10 : decode cV_drawingRefusal 10 = .ok (.ireturn, 1) := by decide +kernel
abbrev cV_checkRefusal : ByteArray := prog_1_method_35_code
abbrev yV_checkRefusal : MethodName := ⟨"DrawingVault", "checkRefusal", "(III)I"⟩
theorem dV_checkRefusal_0 : decode cV_checkRefusal 0 = .ok (.aload_n 0, 1) := by decide +kernel
theorem dV_checkRefusal_1 : decode cV_checkRefusal 1 = .ok (.iload_n 1, 1) := by decide +kernel
theorem dV_checkRefusal_2 : decode cV_checkRefusal 2 = .ok (.invokevirtual 74, 3) := by decide +kernel
theorem dV_checkRefusal_5 : decode cV_checkRefusal 5 = .ok (.astore 4, 2) := by decide +kernel
theorem dV_checkRefusal_7 : decode cV_checkRefusal 7 = .ok (.aload_n 0, 1) := by decide +kernel
theorem dV_checkRefusal_8 : decode cV_checkRefusal 8 = .ok (.iload_n 1, 1) := by decide +kernel
theorem dV_checkRefusal_9 : decode cV_checkRefusal 9 = .ok (.iload_n 2, 1) := by decide +kernel
theorem dV_checkRefusal_10 : decode cV_checkRefusal 10 = .ok (.invokevirtual 163, 3) := by decide +kernel
theorem dV_checkRefusal_13 : decode cV_checkRefusal 13 = .ok (.astore 5, 2) := by decide +kernel
theorem dV_checkRefusal_15 : decode cV_checkRefusal 15 = .ok (.aload_n 0, 1) := by decide +kernel
theorem dV_checkRefusal_16 : decode cV_checkRefusal 16 = .ok (.iload_n 3, 1) := by decide +kernel
theorem dV_checkRefusal_17 : decode cV_checkRefusal 17 = .ok (.iconst 2, 1) := by decide +kernel
theorem dV_checkRefusal_18 : decode cV_checkRefusal 18 = .ok (.invokevirtual 284, 3) := by decide +kernel
theorem dV_checkRefusal_21 : decode cV_checkRefusal 21 = .ok (.ifCond .ne 5, 3) := by decide +kernel
theorem dV_checkRefusal_24 : decode cV_checkRefusal 24 = .ok (.iconst 1, 1) := by decide +kernel
theorem dV_checkRefusal_25 : decode cV_checkRefusal 25 = .ok (.ireturn, 1) := by decide +kernel
abbrev cV_releaseRefusal : ByteArray := prog_1_method_36_code
abbrev yV_releaseRefusal : MethodName := ⟨"DrawingVault", "releaseRefusal", "(III)I"⟩
theorem dV_releaseRefusal_0 : decode cV_releaseRefusal 0 = .ok (.aload_n 0, 1) := by decide +kernel
theorem dV_releaseRefusal_1 : decode cV_releaseRefusal 1 = .ok (.iload_n 1, 1) := by decide +kernel
theorem dV_releaseRefusal_2 : decode cV_releaseRefusal 2 = .ok (.iload_n 2, 1) := by decide +kernel
theorem dV_releaseRefusal_3 : decode cV_releaseRefusal 3 = .ok (.invokevirtual 163, 3) := by decide +kernel
theorem dV_releaseRefusal_6 : decode cV_releaseRefusal 6 = .ok (.astore 4, 2) := by decide +kernel
theorem dV_releaseRefusal_8 : decode cV_releaseRefusal 8 = .ok (.aload_n 0, 1) := by decide +kernel
theorem dV_releaseRefusal_9 : decode cV_releaseRefusal 9 = .ok (.iload_n 3, 1) := by decide +kernel
theorem dV_releaseRefusal_10 : decode cV_releaseRefusal 10 = .ok (.iconst 4, 1) := by decide +kernel
theorem dV_releaseRefusal_11 : decode cV_releaseRefusal 11 = .ok (.invokevirtual 284, 3) := by decide +kernel
theorem dV_releaseRefusal_14 : decode cV_releaseRefusal 14 = .ok (.ifCond .ne 5, 3) := by decide +kernel
theorem dV_releaseRefusal_17 : decode cV_releaseRefusal 17 = .ok (.iconst 1, 1) := by decide +kernel
theorem dV_releaseRefusal_18 : decode cV_releaseRefusal 18 = .ok (.ireturn, 1) := by decide +kernel
abbrev cV_withdrawRefusal : ByteArray := prog_1_method_37_code
abbrev yV_withdrawRefusal : MethodName := ⟨"DrawingVault", "withdrawRefusal", "(III)I"⟩
theorem dV_withdrawRefusal_0 : decode cV_withdrawRefusal 0 = .ok (.aload_n 0, 1) := by decide +kernel
theorem dV_withdrawRefusal_1 : decode cV_withdrawRefusal 1 = .ok (.iload_n 1, 1) := by decide +kernel
theorem dV_withdrawRefusal_2 : decode cV_withdrawRefusal 2 = .ok (.iload_n 2, 1) := by decide +kernel
theorem dV_withdrawRefusal_3 : decode cV_withdrawRefusal 3 = .ok (.invokevirtual 163, 3) := by decide +kernel
theorem dV_withdrawRefusal_6 : decode cV_withdrawRefusal 6 = .ok (.astore 4, 2) := by decide +kernel
theorem dV_withdrawRefusal_8 : decode cV_withdrawRefusal 8 = .ok (.aload_n 0, 1) := by decide +kernel
theorem dV_withdrawRefusal_9 : decode cV_withdrawRefusal 9 = .ok (.iload_n 3, 1) := by decide +kernel
theorem dV_withdrawRefusal_10 : decode cV_withdrawRefusal 10 = .ok (.iconst 4, 1) := by decide +kernel
theorem dV_withdrawRefusal_11 : decode cV_withdrawRefusal 11 = .ok (.invokevirtual 284, 3) := by decide +kernel
theorem dV_withdrawRefusal_14 : decode cV_withdrawRefusal 14 = .ok (.ifCond .ne 5, 3) := by decide +kernel
theorem dV_withdrawRefusal_17 : decode cV_withdrawRefusal 17 = .ok (.iconst 1, 1) := by decide +kernel
theorem dV_withdrawRefusal_18 : decode cV_withdrawRefusal 18 = .ok (.ireturn, 1) := by decide +kernel
abbrev cV_why : ByteArray := prog_1_method_15_code
abbrev yV_why : MethodName := ⟨"DrawingVault", "why", "()I"⟩
theorem dV_why_0 : decode cV_why 0 = .ok (.aload_n 0, 1) := by decide +kernel
theorem dV_why_1 : decode cV_why 1 = .ok (.getfield 160, 3) := by decide +kernel
theorem dV_why_4 : decode cV_why 4 = .ok (.ireturn, 1) := by decide +kernel
abbrev cV_allowed : ByteArray := prog_1_method_26_code
abbrev yV_allowed : MethodName := ⟨"DrawingVault", "allowed", "(I)Z"⟩
theorem dV_allowed_0 : decode cV_allowed 0 = .ok (.aload_n 0, 1) := by decide +kernel
theorem dV_allowed_1 : decode cV_allowed 1 = .ok (.iload_n 1, 1) := by decide +kernel
theorem dV_allowed_2 : decode cV_allowed 2 = .ok (.putfield 160, 3) := by decide +kernel
theorem dV_allowed_5 : decode cV_allowed 5 = .ok (.iload_n 1, 1) := by decide +kernel
theorem dV_allowed_6 : decode cV_allowed 6 = .ok (.ifCond .ne 7, 3) := by decide +kernel
theorem dV_allowed_9 : decode cV_allowed 9 = .ok (.iconst 1, 1) := by decide +kernel
theorem dV_allowed_10 : decode cV_allowed 10 = .ok (.goto 4, 3) := by decide +kernel
theorem dV_allowed_13 : decode cV_allowed 13 = .ok (.iconst 0, 1) := by decide +kernel
theorem dV_allowed_14 : decode cV_allowed 14 = .ok (.ireturn, 1) := by decide +kernel
abbrev cP_failsBy : ByteArray := prog_6_method_4_code
abbrev yP_failsBy : MethodName := ⟨"DrawingVault$Pages", "failsBy", "(I)Z"⟩
theorem dP_failsBy_0 : decode cP_failsBy 0 = .ok (.aload_n 0, 1) := by decide +kernel
theorem dP_failsBy_1 : decode cP_failsBy 1 = .ok (.getfield 15, 3) := by decide +kernel
theorem dP_failsBy_4 : decode cP_failsBy 4 = .ok (.ifCond .eq 15, 3) := by decide +kernel
theorem dP_failsBy_19 : decode cP_failsBy 19 = .ok (.iconst 0, 1) := by decide +kernel
theorem dP_failsBy_20 : decode cP_failsBy 20 = .ok (.ireturn, 1) := by decide +kernel
abbrev cV_mayWrite : ByteArray := prog_1_method_27_code
abbrev yV_mayWrite : MethodName := ⟨"DrawingVault", "mayWrite", "(II)Z"⟩
theorem dV_mayWrite_0 : decode cV_mayWrite 0 = .ok (.iload_n 1, 1) := by decide +kernel
theorem dV_mayWrite_1 : decode cV_mayWrite 1 = .ok (.ifCond .ne 21, 3) := by decide +kernel
theorem dV_mayWrite_4 : decode cV_mayWrite 4 = .ok (.iload_n 2, 1) := by decide +kernel
theorem dV_mayWrite_5 : decode cV_mayWrite 5 = .ok (.aload_n 0, 1) := by decide +kernel
theorem dV_mayWrite_6 : decode cV_mayWrite 6 = .ok (.getfield 40, 3) := by decide +kernel
theorem dV_mayWrite_9 : decode cV_mayWrite 9 = .ok (.getfield 253, 3) := by decide +kernel
theorem dV_mayWrite_12 : decode cV_mayWrite 12 = .ok (.if_icmp .le 10, 3) := by decide +kernel
theorem dV_mayWrite_22 : decode cV_mayWrite 22 = .ok (.iload_n 1, 1) := by decide +kernel
theorem dV_mayWrite_23 : decode cV_mayWrite 23 = .ok (.ifCond .ne 30, 3) := by decide +kernel
theorem dV_mayWrite_26 : decode cV_mayWrite 26 = .ok (.aload_n 0, 1) := by decide +kernel
theorem dV_mayWrite_27 : decode cV_mayWrite 27 = .ok (.getfield 40, 3) := by decide +kernel
theorem dV_mayWrite_30 : decode cV_mayWrite 30 = .ok (.iload_n 2, 1) := by decide +kernel
theorem dV_mayWrite_31 : decode cV_mayWrite 31 = .ok (.invokevirtual 268, 3) := by decide +kernel
theorem dV_mayWrite_34 : decode cV_mayWrite 34 = .ok (.ifCond .eq 19, 3) := by decide +kernel
theorem dV_mayWrite_53 : decode cV_mayWrite 53 = .ok (.aload_n 0, 1) := by decide +kernel
theorem dV_mayWrite_54 : decode cV_mayWrite 54 = .ok (.iload_n 1, 1) := by decide +kernel
theorem dV_mayWrite_55 : decode cV_mayWrite 55 = .ok (.invokevirtual 100, 3) := by decide +kernel
theorem dV_mayWrite_58 : decode cV_mayWrite 58 = .ok (.ireturn, 1) := by decide +kernel
abbrev cV_becomes : ByteArray := prog_1_method_29_code
abbrev yV_becomes : MethodName := ⟨"DrawingVault", "becomes", "(IIII)Z"⟩
theorem dV_becomes_0 : decode cV_becomes 0 = .ok (.aload_n 0, 1) := by decide +kernel
theorem dV_becomes_1 : decode cV_becomes 1 = .ok (.iload_n 1, 1) := by decide +kernel
theorem dV_becomes_2 : decode cV_becomes 2 = .ok (.iload_n 2, 1) := by decide +kernel
theorem dV_becomes_3 : decode cV_becomes 3 = .ok (.invokevirtual 163, 3) := by decide +kernel
theorem dV_becomes_6 : decode cV_becomes 6 = .ok (.astore 5, 2) := by decide +kernel
theorem dV_becomes_8 : decode cV_becomes 8 = .ok (.aload_n 0, 1) := by decide +kernel
theorem dV_becomes_9 : decode cV_becomes 9 = .ok (.iload 4, 2) := by decide +kernel
theorem dV_becomes_11 : decode cV_becomes 11 = .ok (.iconst 1, 1) := by decide +kernel
theorem dV_becomes_12 : decode cV_becomes 12 = .ok (.invokevirtual 51, 3) := by decide +kernel
theorem dV_becomes_15 : decode cV_becomes 15 = .ok (.ifCond .eq 8, 3) := by decide +kernel
theorem dV_becomes_23 : decode cV_becomes 23 = .ok (.iconst 0, 1) := by decide +kernel
theorem dV_becomes_24 : decode cV_becomes 24 = .ok (.ireturn, 1) := by decide +kernel
abbrev cV_drawing : ByteArray := prog_1_method_3_code
abbrev yV_drawing : MethodName := ⟨"DrawingVault", "drawing", "(I)I"⟩
theorem dV_drawing_0 : decode cV_drawing 0 = .ok (.aload_n 0, 1) := by decide +kernel
theorem dV_drawing_1 : decode cV_drawing 1 = .ok (.invokevirtual 44, 3) := by decide +kernel
theorem dV_drawing_4 : decode cV_drawing 4 = .ok (.aload_n 0, 1) := by decide +kernel
theorem dV_drawing_5 : decode cV_drawing 5 = .ok (.aload_n 0, 1) := by decide +kernel
theorem dV_drawing_6 : decode cV_drawing 6 = .ok (.iload_n 1, 1) := by decide +kernel
theorem dV_drawing_7 : decode cV_drawing 7 = .ok (.invokevirtual 59, 3) := by decide +kernel
theorem dV_drawing_10 : decode cV_drawing 10 = .ok (.iconst 2, 1) := by decide +kernel
theorem dV_drawing_11 : decode cV_drawing 11 = .ok (.invokevirtual 51, 3) := by decide +kernel
theorem dV_drawing_14 : decode cV_drawing 14 = .ok (.ifCond .ne 5, 3) := by decide +kernel
theorem dV_drawing_17 : decode cV_drawing 17 = .ok (.iconst (-1), 1) := by decide +kernel
theorem dV_drawing_18 : decode cV_drawing 18 = .ok (.ireturn, 1) := by decide +kernel
abbrev cV_out : ByteArray := prog_1_method_4_code
abbrev yV_out : MethodName := ⟨"DrawingVault", "out", "(II)Z"⟩
theorem dV_out_0 : decode cV_out 0 = .ok (.aload_n 0, 1) := by decide +kernel
theorem dV_out_1 : decode cV_out 1 = .ok (.invokevirtual 44, 3) := by decide +kernel
theorem dV_out_4 : decode cV_out 4 = .ok (.aload_n 0, 1) := by decide +kernel
theorem dV_out_5 : decode cV_out 5 = .ok (.iload_n 1, 1) := by decide +kernel
theorem dV_out_6 : decode cV_out 6 = .ok (.invokevirtual 74, 3) := by decide +kernel
theorem dV_out_9 : decode cV_out 9 = .ok (.astore_n 3, 1) := by decide +kernel
theorem dV_out_10 : decode cV_out 10 = .ok (.aload_n 0, 1) := by decide +kernel
theorem dV_out_11 : decode cV_out 11 = .ok (.aload_n 0, 1) := by decide +kernel
theorem dV_out_12 : decode cV_out 12 = .ok (.aload_n 3, 1) := by decide +kernel
theorem dV_out_13 : decode cV_out 13 = .ok (.iload_n 2, 1) := by decide +kernel
theorem dV_out_14 : decode cV_out 14 = .ok (.invokevirtual 78, 3) := by decide +kernel
theorem dV_out_17 : decode cV_out 17 = .ok (.iconst 1, 1) := by decide +kernel
theorem dV_out_18 : decode cV_out 18 = .ok (.invokevirtual 51, 3) := by decide +kernel
theorem dV_out_21 : decode cV_out 21 = .ok (.ifCond .ne 5, 3) := by decide +kernel
theorem dV_out_24 : decode cV_out 24 = .ok (.iconst 0, 1) := by decide +kernel
theorem dV_out_25 : decode cV_out 25 = .ok (.ireturn, 1) := by decide +kernel
abbrev cV_undo : ByteArray := prog_1_method_5_code
abbrev yV_undo : MethodName := ⟨"DrawingVault", "undo", "(II)Z"⟩
theorem dV_undo_0 : decode cV_undo 0 = .ok (.aload_n 0, 1) := by decide +kernel
theorem dV_undo_1 : decode cV_undo 1 = .ok (.invokevirtual 44, 3) := by decide +kernel
theorem dV_undo_4 : decode cV_undo 4 = .ok (.aload_n 0, 1) := by decide +kernel
theorem dV_undo_5 : decode cV_undo 5 = .ok (.iload_n 1, 1) := by decide +kernel
theorem dV_undo_6 : decode cV_undo 6 = .ok (.invokevirtual 74, 3) := by decide +kernel
theorem dV_undo_9 : decode cV_undo 9 = .ok (.astore_n 3, 1) := by decide +kernel
theorem dV_undo_10 : decode cV_undo 10 = .ok (.aload_n 0, 1) := by decide +kernel
theorem dV_undo_11 : decode cV_undo 11 = .ok (.aload_n 0, 1) := by decide +kernel
theorem dV_undo_12 : decode cV_undo 12 = .ok (.aload_n 3, 1) := by decide +kernel
theorem dV_undo_13 : decode cV_undo 13 = .ok (.iload_n 2, 1) := by decide +kernel
theorem dV_undo_14 : decode cV_undo 14 = .ok (.invokevirtual 85, 3) := by decide +kernel
theorem dV_undo_17 : decode cV_undo 17 = .ok (.iconst 1, 1) := by decide +kernel
theorem dV_undo_18 : decode cV_undo 18 = .ok (.invokevirtual 51, 3) := by decide +kernel
theorem dV_undo_21 : decode cV_undo 21 = .ok (.ifCond .ne 5, 3) := by decide +kernel
theorem dV_undo_24 : decode cV_undo 24 = .ok (.iconst 0, 1) := by decide +kernel
theorem dV_undo_25 : decode cV_undo 25 = .ok (.ireturn, 1) := by decide +kernel
abbrev cV_put : ByteArray := prog_1_method_6_code
abbrev yV_put : MethodName := ⟨"DrawingVault", "put", "(IIII)Z"⟩
theorem dV_put_0 : decode cV_put 0 = .ok (.aload_n 0, 1) := by decide +kernel
theorem dV_put_1 : decode cV_put 1 = .ok (.invokevirtual 44, 3) := by decide +kernel
theorem dV_put_4 : decode cV_put 4 = .ok (.aload_n 0, 1) := by decide +kernel
theorem dV_put_5 : decode cV_put 5 = .ok (.iload_n 1, 1) := by decide +kernel
theorem dV_put_6 : decode cV_put 6 = .ok (.invokevirtual 74, 3) := by decide +kernel
theorem dV_put_9 : decode cV_put 9 = .ok (.astore 5, 2) := by decide +kernel
theorem dV_put_11 : decode cV_put 11 = .ok (.aload_n 0, 1) := by decide +kernel
theorem dV_put_12 : decode cV_put 12 = .ok (.aload 5, 2) := by decide +kernel
theorem dV_put_14 : decode cV_put 14 = .ok (.iload_n 2, 1) := by decide +kernel
theorem dV_put_15 : decode cV_put 15 = .ok (.invokevirtual 85, 3) := by decide +kernel
theorem dV_put_18 : decode cV_put 18 = .ok (.istore 6, 2) := by decide +kernel
theorem dV_put_20 : decode cV_put 20 = .ok (.iload 6, 2) := by decide +kernel
theorem dV_put_22 : decode cV_put 22 = .ok (.ifCond .ne 32, 3) := by decide +kernel
theorem dV_put_54 : decode cV_put 54 = .ok (.aload_n 0, 1) := by decide +kernel
theorem dV_put_55 : decode cV_put 55 = .ok (.iload 6, 2) := by decide +kernel
theorem dV_put_57 : decode cV_put 57 = .ok (.invokevirtual 100, 3) := by decide +kernel
theorem dV_put_60 : decode cV_put 60 = .ok (.ifCond .ne 5, 3) := by decide +kernel
theorem dV_put_63 : decode cV_put 63 = .ok (.iconst 0, 1) := by decide +kernel
theorem dV_put_64 : decode cV_put 64 = .ok (.ireturn, 1) := by decide +kernel
abbrev cV_resize : ByteArray := prog_1_method_7_code
abbrev yV_resize : MethodName := ⟨"DrawingVault", "resize", "(III)Z"⟩
theorem dV_resize_0 : decode cV_resize 0 = .ok (.aload_n 0, 1) := by decide +kernel
theorem dV_resize_1 : decode cV_resize 1 = .ok (.invokevirtual 44, 3) := by decide +kernel
theorem dV_resize_4 : decode cV_resize 4 = .ok (.aload_n 0, 1) := by decide +kernel
theorem dV_resize_5 : decode cV_resize 5 = .ok (.iload_n 1, 1) := by decide +kernel
theorem dV_resize_6 : decode cV_resize 6 = .ok (.invokevirtual 74, 3) := by decide +kernel
theorem dV_resize_9 : decode cV_resize 9 = .ok (.astore 4, 2) := by decide +kernel
theorem dV_resize_11 : decode cV_resize 11 = .ok (.aload_n 0, 1) := by decide +kernel
theorem dV_resize_12 : decode cV_resize 12 = .ok (.aload 4, 2) := by decide +kernel
theorem dV_resize_14 : decode cV_resize 14 = .ok (.iload_n 2, 1) := by decide +kernel
theorem dV_resize_15 : decode cV_resize 15 = .ok (.invokevirtual 85, 3) := by decide +kernel
theorem dV_resize_18 : decode cV_resize 18 = .ok (.istore 5, 2) := by decide +kernel
theorem dV_resize_20 : decode cV_resize 20 = .ok (.iload 5, 2) := by decide +kernel
theorem dV_resize_22 : decode cV_resize 22 = .ok (.ifCond .ne 17, 3) := by decide +kernel
theorem dV_resize_39 : decode cV_resize 39 = .ok (.aload_n 0, 1) := by decide +kernel
theorem dV_resize_40 : decode cV_resize 40 = .ok (.iload 5, 2) := by decide +kernel
theorem dV_resize_42 : decode cV_resize 42 = .ok (.invokevirtual 100, 3) := by decide +kernel
theorem dV_resize_45 : decode cV_resize 45 = .ok (.ifCond .ne 5, 3) := by decide +kernel
theorem dV_resize_48 : decode cV_resize 48 = .ok (.iconst 0, 1) := by decide +kernel
theorem dV_resize_49 : decode cV_resize 49 = .ok (.ireturn, 1) := by decide +kernel
abbrev cV_ref : ByteArray := prog_1_method_8_code
abbrev yV_ref : MethodName := ⟨"DrawingVault", "ref", "(IIIII)Z"⟩
theorem dV_ref_0 : decode cV_ref 0 = .ok (.aload_n 0, 1) := by decide +kernel
theorem dV_ref_1 : decode cV_ref 1 = .ok (.invokevirtual 44, 3) := by decide +kernel
theorem dV_ref_4 : decode cV_ref 4 = .ok (.aload_n 0, 1) := by decide +kernel
theorem dV_ref_5 : decode cV_ref 5 = .ok (.iload_n 1, 1) := by decide +kernel
theorem dV_ref_6 : decode cV_ref 6 = .ok (.invokevirtual 74, 3) := by decide +kernel
theorem dV_ref_9 : decode cV_ref 9 = .ok (.astore 6, 2) := by decide +kernel
theorem dV_ref_11 : decode cV_ref 11 = .ok (.aload_n 0, 1) := by decide +kernel
theorem dV_ref_12 : decode cV_ref 12 = .ok (.aload 6, 2) := by decide +kernel
theorem dV_ref_14 : decode cV_ref 14 = .ok (.iload_n 2, 1) := by decide +kernel
theorem dV_ref_15 : decode cV_ref 15 = .ok (.invokevirtual 85, 3) := by decide +kernel
theorem dV_ref_18 : decode cV_ref 18 = .ok (.istore 7, 2) := by decide +kernel
theorem dV_ref_20 : decode cV_ref 20 = .ok (.iload 7, 2) := by decide +kernel
theorem dV_ref_22 : decode cV_ref 22 = .ok (.ifCond .ne 19, 3) := by decide +kernel
theorem dV_ref_41 : decode cV_ref 41 = .ok (.aload_n 0, 1) := by decide +kernel
theorem dV_ref_42 : decode cV_ref 42 = .ok (.iload 7, 2) := by decide +kernel
theorem dV_ref_44 : decode cV_ref 44 = .ok (.invokevirtual 100, 3) := by decide +kernel
theorem dV_ref_47 : decode cV_ref 47 = .ok (.ifCond .ne 5, 3) := by decide +kernel
theorem dV_ref_50 : decode cV_ref 50 = .ok (.iconst 0, 1) := by decide +kernel
theorem dV_ref_51 : decode cV_ref 51 = .ok (.ireturn, 1) := by decide +kernel
abbrev cV_drop : ByteArray := prog_1_method_9_code
abbrev yV_drop : MethodName := ⟨"DrawingVault", "drop", "(III)Z"⟩
theorem dV_drop_0 : decode cV_drop 0 = .ok (.aload_n 0, 1) := by decide +kernel
theorem dV_drop_1 : decode cV_drop 1 = .ok (.invokevirtual 44, 3) := by decide +kernel
theorem dV_drop_4 : decode cV_drop 4 = .ok (.aload_n 0, 1) := by decide +kernel
theorem dV_drop_5 : decode cV_drop 5 = .ok (.iload_n 1, 1) := by decide +kernel
theorem dV_drop_6 : decode cV_drop 6 = .ok (.invokevirtual 74, 3) := by decide +kernel
theorem dV_drop_9 : decode cV_drop 9 = .ok (.astore 4, 2) := by decide +kernel
theorem dV_drop_11 : decode cV_drop 11 = .ok (.aload_n 0, 1) := by decide +kernel
theorem dV_drop_12 : decode cV_drop 12 = .ok (.aload 4, 2) := by decide +kernel
theorem dV_drop_14 : decode cV_drop 14 = .ok (.iload_n 2, 1) := by decide +kernel
theorem dV_drop_15 : decode cV_drop 15 = .ok (.invokevirtual 85, 3) := by decide +kernel
theorem dV_drop_18 : decode cV_drop 18 = .ok (.istore 5, 2) := by decide +kernel
theorem dV_drop_20 : decode cV_drop 20 = .ok (.iload 5, 2) := by decide +kernel
theorem dV_drop_22 : decode cV_drop 22 = .ok (.ifCond .ne 19, 3) := by decide +kernel
theorem dV_drop_41 : decode cV_drop 41 = .ok (.aload_n 0, 1) := by decide +kernel
theorem dV_drop_42 : decode cV_drop 42 = .ok (.iload 5, 2) := by decide +kernel
theorem dV_drop_44 : decode cV_drop 44 = .ok (.invokevirtual 100, 3) := by decide +kernel
theorem dV_drop_47 : decode cV_drop 47 = .ok (.ifCond .ne 5, 3) := by decide +kernel
theorem dV_drop_50 : decode cV_drop 50 = .ok (.iconst 0, 1) := by decide +kernel
theorem dV_drop_51 : decode cV_drop 51 = .ok (.ireturn, 1) := by decide +kernel
abbrev cV_checkIn : ByteArray := prog_1_method_10_code
abbrev yV_checkIn : MethodName := ⟨"DrawingVault", "checkIn", "(II)I"⟩
theorem dV_checkIn_0 : decode cV_checkIn 0 = .ok (.aload_n 0, 1) := by decide +kernel
theorem dV_checkIn_1 : decode cV_checkIn 1 = .ok (.invokevirtual 44, 3) := by decide +kernel
theorem dV_checkIn_4 : decode cV_checkIn 4 = .ok (.aload_n 0, 1) := by decide +kernel
theorem dV_checkIn_5 : decode cV_checkIn 5 = .ok (.iload_n 1, 1) := by decide +kernel
theorem dV_checkIn_6 : decode cV_checkIn 6 = .ok (.invokevirtual 74, 3) := by decide +kernel
theorem dV_checkIn_9 : decode cV_checkIn 9 = .ok (.astore_n 3, 1) := by decide +kernel
theorem dV_checkIn_10 : decode cV_checkIn 10 = .ok (.aload_n 0, 1) := by decide +kernel
theorem dV_checkIn_11 : decode cV_checkIn 11 = .ok (.aload_n 3, 1) := by decide +kernel
theorem dV_checkIn_12 : decode cV_checkIn 12 = .ok (.iload_n 2, 1) := by decide +kernel
theorem dV_checkIn_13 : decode cV_checkIn 13 = .ok (.invokevirtual 85, 3) := by decide +kernel
theorem dV_checkIn_16 : decode cV_checkIn 16 = .ok (.istore 4, 2) := by decide +kernel
theorem dV_checkIn_18 : decode cV_checkIn 18 = .ok (.iconst 0, 1) := by decide +kernel
theorem dV_checkIn_19 : decode cV_checkIn 19 = .ok (.istore 5, 2) := by decide +kernel
theorem dV_checkIn_21 : decode cV_checkIn 21 = .ok (.iload 4, 2) := by decide +kernel
theorem dV_checkIn_23 : decode cV_checkIn 23 = .ok (.ifCond .ne 26, 3) := by decide +kernel
theorem dV_checkIn_49 : decode cV_checkIn 49 = .ok (.aload_n 0, 1) := by decide +kernel
theorem dV_checkIn_50 : decode cV_checkIn 50 = .ok (.iload 4, 2) := by decide +kernel
theorem dV_checkIn_52 : decode cV_checkIn 52 = .ok (.iload 5, 2) := by decide +kernel
theorem dV_checkIn_54 : decode cV_checkIn 54 = .ok (.invokevirtual 51, 3) := by decide +kernel
theorem dV_checkIn_57 : decode cV_checkIn 57 = .ok (.ifCond .ne 5, 3) := by decide +kernel
theorem dV_checkIn_60 : decode cV_checkIn 60 = .ok (.iconst (-1), 1) := by decide +kernel
theorem dV_checkIn_61 : decode cV_checkIn 61 = .ok (.ireturn, 1) := by decide +kernel
abbrev cV_check : ByteArray := prog_1_method_11_code
abbrev yV_check : MethodName := ⟨"DrawingVault", "check", "(III)Z"⟩
theorem dV_check_0 : decode cV_check 0 = .ok (.aload_n 0, 1) := by decide +kernel
theorem dV_check_1 : decode cV_check 1 = .ok (.invokevirtual 44, 3) := by decide +kernel
theorem dV_check_4 : decode cV_check 4 = .ok (.aload_n 0, 1) := by decide +kernel
theorem dV_check_5 : decode cV_check 5 = .ok (.iload_n 1, 1) := by decide +kernel
theorem dV_check_6 : decode cV_check 6 = .ok (.iload_n 2, 1) := by decide +kernel
theorem dV_check_7 : decode cV_check 7 = .ok (.iconst 1, 1) := by decide +kernel
theorem dV_check_8 : decode cV_check 8 = .ok (.aload_n 0, 1) := by decide +kernel
theorem dV_check_9 : decode cV_check 9 = .ok (.iload_n 1, 1) := by decide +kernel
theorem dV_check_10 : decode cV_check 10 = .ok (.iload_n 2, 1) := by decide +kernel
theorem dV_check_11 : decode cV_check 11 = .ok (.iload_n 3, 1) := by decide +kernel
theorem dV_check_12 : decode cV_check 12 = .ok (.invokevirtual 136, 3) := by decide +kernel
theorem dV_check_15 : decode cV_check 15 = .ok (.invokevirtual 140, 3) := by decide +kernel
theorem dV_check_18 : decode cV_check 18 = .ok (.ireturn, 1) := by decide +kernel
abbrev cV_release : ByteArray := prog_1_method_12_code
abbrev yV_release : MethodName := ⟨"DrawingVault", "release", "(III)Z"⟩
theorem dV_release_0 : decode cV_release 0 = .ok (.aload_n 0, 1) := by decide +kernel
theorem dV_release_1 : decode cV_release 1 = .ok (.invokevirtual 44, 3) := by decide +kernel
theorem dV_release_4 : decode cV_release 4 = .ok (.aload_n 0, 1) := by decide +kernel
theorem dV_release_5 : decode cV_release 5 = .ok (.iload_n 1, 1) := by decide +kernel
theorem dV_release_6 : decode cV_release 6 = .ok (.iload_n 2, 1) := by decide +kernel
theorem dV_release_7 : decode cV_release 7 = .ok (.iconst 2, 1) := by decide +kernel
theorem dV_release_8 : decode cV_release 8 = .ok (.aload_n 0, 1) := by decide +kernel
theorem dV_release_9 : decode cV_release 9 = .ok (.iload_n 1, 1) := by decide +kernel
theorem dV_release_10 : decode cV_release 10 = .ok (.iload_n 2, 1) := by decide +kernel
theorem dV_release_11 : decode cV_release 11 = .ok (.iload_n 3, 1) := by decide +kernel
theorem dV_release_12 : decode cV_release 12 = .ok (.invokevirtual 144, 3) := by decide +kernel
theorem dV_release_15 : decode cV_release 15 = .ok (.invokevirtual 140, 3) := by decide +kernel
theorem dV_release_18 : decode cV_release 18 = .ok (.ireturn, 1) := by decide +kernel
abbrev cV_withdraw : ByteArray := prog_1_method_13_code
abbrev yV_withdraw : MethodName := ⟨"DrawingVault", "withdraw", "(III)Z"⟩
theorem dV_withdraw_0 : decode cV_withdraw 0 = .ok (.aload_n 0, 1) := by decide +kernel
theorem dV_withdraw_1 : decode cV_withdraw 1 = .ok (.invokevirtual 44, 3) := by decide +kernel
theorem dV_withdraw_4 : decode cV_withdraw 4 = .ok (.aload_n 0, 1) := by decide +kernel
theorem dV_withdraw_5 : decode cV_withdraw 5 = .ok (.iload_n 1, 1) := by decide +kernel
theorem dV_withdraw_6 : decode cV_withdraw 6 = .ok (.iload_n 2, 1) := by decide +kernel
theorem dV_withdraw_7 : decode cV_withdraw 7 = .ok (.iconst 3, 1) := by decide +kernel
theorem dV_withdraw_8 : decode cV_withdraw 8 = .ok (.aload_n 0, 1) := by decide +kernel
theorem dV_withdraw_9 : decode cV_withdraw 9 = .ok (.iload_n 1, 1) := by decide +kernel
theorem dV_withdraw_10 : decode cV_withdraw 10 = .ok (.iload_n 2, 1) := by decide +kernel
theorem dV_withdraw_11 : decode cV_withdraw 11 = .ok (.iload_n 3, 1) := by decide +kernel
theorem dV_withdraw_12 : decode cV_withdraw 12 = .ok (.invokevirtual 147, 3) := by decide +kernel
theorem dV_withdraw_15 : decode cV_withdraw 15 = .ok (.invokevirtual 140, 3) := by decide +kernel
theorem dV_withdraw_18 : decode cV_withdraw 18 = .ok (.ireturn, 1) := by decide +kernel
abbrev cP_write : ByteArray := prog_6_method_5_code
abbrev yP_write : MethodName := ⟨"DrawingVault$Pages", "write", "(I)V"⟩
theorem dP_write_0 : decode cP_write 0 = .ok (.aload_n 0, 1) := by decide +kernel
theorem dP_write_1 : decode cP_write 1 = .ok (.dup, 1) := by decide +kernel
theorem dP_write_2 : decode cP_write 2 = .ok (.getfield 9, 3) := by decide +kernel
theorem dP_write_5 : decode cP_write 5 = .ok (.iload_n 1, 1) := by decide +kernel
theorem dP_write_6 : decode cP_write 6 = .ok (.isub, 1) := by decide +kernel
theorem dP_write_7 : decode cP_write 7 = .ok (.putfield 9, 3) := by decide +kernel
theorem dP_write_10 : decode cP_write 10 = .ok (.aload_n 0, 1) := by decide +kernel
theorem dP_write_11 : decode cP_write 11 = .ok (.dup, 1) := by decide +kernel
theorem dP_write_12 : decode cP_write 12 = .ok (.getfield 25, 3) := by decide +kernel
theorem dP_write_15 : decode cP_write 15 = .ok (.iconst 1, 1) := by decide +kernel
theorem dP_write_16 : decode cP_write 16 = .ok (.iadd, 1) := by decide +kernel
theorem dP_write_17 : decode cP_write 17 = .ok (.putfield 25, 3) := by decide +kernel
theorem dP_write_20 : decode cP_write 20 = .ok (.aload_n 0, 1) := by decide +kernel
theorem dP_write_21 : decode cP_write 21 = .ok (.getfield 15, 3) := by decide +kernel
theorem dP_write_24 : decode cP_write 24 = .ok (.ifCond .eq 13, 3) := by decide +kernel
theorem dP_write_37 : decode cP_write 37 = .ok (.return_, 1) := by decide +kernel
abbrev cP_areLow : ByteArray := prog_6_method_6_code
abbrev yP_areLow : MethodName := ⟨"DrawingVault$Pages", "areLow", "()Z"⟩
theorem dP_areLow_0 : decode cP_areLow 0 = .ok (.aload_n 0, 1) := by decide +kernel
theorem dP_areLow_1 : decode cP_areLow 1 = .ok (.getfield 9, 3) := by decide +kernel
theorem dP_areLow_4 : decode cP_areLow 4 = .ok (.bipush 40, 2) := by decide +kernel
theorem dP_areLow_6 : decode cP_areLow 6 = .ok (.if_icmp .ge 7, 3) := by decide +kernel
theorem dP_areLow_13 : decode cP_areLow 13 = .ok (.iconst 0, 1) := by decide +kernel
theorem dP_areLow_14 : decode cP_areLow 14 = .ok (.ireturn, 1) := by decide +kernel
abbrev cV_finish : ByteArray := prog_1_method_28_code
abbrev yV_finish : MethodName := ⟨"DrawingVault", "finish", "(I)V"⟩
theorem dV_finish_0 : decode cV_finish 0 = .ok (.aload_n 0, 1) := by decide +kernel
theorem dV_finish_1 : decode cV_finish 1 = .ok (.getfield 40, 3) := by decide +kernel
theorem dV_finish_4 : decode cV_finish 4 = .ok (.iload_n 1, 1) := by decide +kernel
theorem dV_finish_5 : decode cV_finish 5 = .ok (.invokevirtual 271, 3) := by decide +kernel
theorem dV_finish_8 : decode cV_finish 8 = .ok (.iconst 0, 1) := by decide +kernel
theorem dV_finish_9 : decode cV_finish 9 = .ok (.istore_n 2, 1) := by decide +kernel
theorem dV_finish_10 : decode cV_finish 10 = .ok (.iload_n 2, 1) := by decide +kernel
theorem dV_finish_11 : decode cV_finish 11 = .ok (.aload_n 0, 1) := by decide +kernel
theorem dV_finish_12 : decode cV_finish 12 = .ok (.getfield 67, 3) := by decide +kernel
theorem dV_finish_15 : decode cV_finish 15 = .ok (.if_icmp .ge 30, 3) := by decide +kernel
theorem dV_finish_45 : decode cV_finish 45 = .ok (.aload_n 0, 1) := by decide +kernel
theorem dV_finish_46 : decode cV_finish 46 = .ok (.getfield 40, 3) := by decide +kernel
theorem dV_finish_49 : decode cV_finish 49 = .ok (.invokevirtual 274, 3) := by decide +kernel
theorem dV_finish_52 : decode cV_finish 52 = .ok (.ifCond .eq 14, 3) := by decide +kernel
theorem dV_finish_66 : decode cV_finish 66 = .ok (.return_, 1) := by decide +kernel
abbrev cV_person : ByteArray := prog_1_method_2_code
abbrev yV_person : MethodName := ⟨"DrawingVault", "person", "(II)Z"⟩
theorem dV_person_0 : decode cV_person 0 = .ok (.aload_n 0, 1) := by decide +kernel
theorem dV_person_1 : decode cV_person 1 = .ok (.invokevirtual 44, 3) := by decide +kernel
theorem dV_person_4 : decode cV_person 4 = .ok (.iload_n 1, 1) := by decide +kernel
theorem dV_person_5 : decode cV_person 5 = .ok (.invokestatic 47, 3) := by decide +kernel
theorem dV_person_8 : decode cV_person 8 = .ok (.ifCond .eq 17, 3) := by decide +kernel
theorem dV_person_11 : decode cV_person 11 = .ok (.iload_n 2, 1) := by decide +kernel
theorem dV_person_12 : decode cV_person 12 = .ok (.ifCond .lt 13, 3) := by decide +kernel
theorem dV_person_15 : decode cV_person 15 = .ok (.iload_n 2, 1) := by decide +kernel
theorem dV_person_16 : decode cV_person 16 = .ok (.bipush 7, 2) := by decide +kernel
theorem dV_person_18 : decode cV_person 18 = .ok (.if_icmp .gt 7, 3) := by decide +kernel
theorem dV_person_21 : decode cV_person 21 = .ok (.iconst 1, 1) := by decide +kernel
theorem dV_person_22 : decode cV_person 22 = .ok (.goto 4, 3) := by decide +kernel
theorem dV_person_25 : decode cV_person 25 = .ok (.iconst 0, 1) := by decide +kernel
theorem dV_person_26 : decode cV_person 26 = .ok (.istore_n 3, 1) := by decide +kernel
theorem dV_person_27 : decode cV_person 27 = .ok (.aload_n 0, 1) := by decide +kernel
theorem dV_person_28 : decode cV_person 28 = .ok (.iload_n 3, 1) := by decide +kernel
theorem dV_person_29 : decode cV_person 29 = .ok (.ifCond .eq 7, 3) := by decide +kernel
theorem dV_person_32 : decode cV_person 32 = .ok (.iconst 0, 1) := by decide +kernel
theorem dV_person_33 : decode cV_person 33 = .ok (.goto 5, 3) := by decide +kernel
theorem dV_person_36 : decode cV_person 36 = .ok (.bipush 7, 2) := by decide +kernel
theorem dV_person_38 : decode cV_person 38 = .ok (.iconst 1, 1) := by decide +kernel
theorem dV_person_39 : decode cV_person 39 = .ok (.invokevirtual 51, 3) := by decide +kernel
theorem dV_person_42 : decode cV_person 42 = .ok (.ifCond .ne 5, 3) := by decide +kernel
theorem dV_person_45 : decode cV_person 45 = .ok (.iconst 0, 1) := by decide +kernel
theorem dV_person_46 : decode cV_person 46 = .ok (.ireturn, 1) := by decide +kernel
theorem dV_person_47 : decode cV_person 47 = .ok (.aload_n 0, 1) := by decide +kernel
theorem dV_person_48 : decode cV_person 48 = .ok (.getfield 9, 3) := by decide +kernel
theorem dV_person_51 : decode cV_person 51 = .ok (.iload_n 1, 1) := by decide +kernel
theorem dV_person_52 : decode cV_person 52 = .ok (.iload_n 2, 1) := by decide +kernel
theorem dV_person_53 : decode cV_person 53 = .ok (.iastore, 1) := by decide +kernel
theorem dV_person_54 : decode cV_person 54 = .ok (.aload_n 0, 1) := by decide +kernel
theorem dV_person_55 : decode cV_person 55 = .ok (.iconst 1, 1) := by decide +kernel
theorem dV_person_56 : decode cV_person 56 = .ok (.invokevirtual 55, 3) := by decide +kernel
theorem dV_person_59 : decode cV_person 59 = .ok (.iconst 1, 1) := by decide +kernel
theorem dV_person_60 : decode cV_person 60 = .ok (.ireturn, 1) := by decide +kernel
abbrev cP_failAhead : ByteArray := prog_6_method_2_code
abbrev yP_failAhead : MethodName := ⟨"DrawingVault$Pages", "failAhead", "(I)V"⟩
theorem dP_failAhead_0 : decode cP_failAhead 0 = .ok (.aload_n 0, 1) := by decide +kernel
theorem dP_failAhead_1 : decode cP_failAhead 1 = .ok (.iconst 1, 1) := by decide +kernel
theorem dP_failAhead_2 : decode cP_failAhead 2 = .ok (.putfield 15, 3) := by decide +kernel
theorem dP_failAhead_5 : decode cP_failAhead 5 = .ok (.aload_n 0, 1) := by decide +kernel
theorem dP_failAhead_6 : decode cP_failAhead 6 = .ok (.iload_n 1, 1) := by decide +kernel
theorem dP_failAhead_7 : decode cP_failAhead 7 = .ok (.putfield 19, 3) := by decide +kernel
theorem dP_failAhead_10 : decode cP_failAhead 10 = .ok (.return_, 1) := by decide +kernel
abbrev cV_failAfter : ByteArray := prog_1_method_22_code
abbrev yV_failAfter : MethodName := ⟨"DrawingVault", "failAfter", "(I)Z"⟩
theorem dV_failAfter_0 : decode cV_failAfter 0 = .ok (.iload_n 1, 1) := by decide +kernel
theorem dV_failAfter_1 : decode cV_failAfter 1 = .ok (.ifCond .lt 13, 3) := by decide +kernel
theorem dV_failAfter_4 : decode cV_failAfter 4 = .ok (.aload_n 0, 1) := by decide +kernel
theorem dV_failAfter_5 : decode cV_failAfter 5 = .ok (.getfield 40, 3) := by decide +kernel
theorem dV_failAfter_8 : decode cV_failAfter 8 = .ok (.getfield 230, 3) := by decide +kernel
theorem dV_failAfter_11 : decode cV_failAfter 11 = .ok (.ifCond .eq 5, 3) := by decide +kernel
theorem dV_failAfter_14 : decode cV_failAfter 14 = .ok (.iconst 0, 1) := by decide +kernel
theorem dV_failAfter_15 : decode cV_failAfter 15 = .ok (.ireturn, 1) := by decide +kernel
theorem dV_failAfter_16 : decode cV_failAfter 16 = .ok (.aload_n 0, 1) := by decide +kernel
theorem dV_failAfter_17 : decode cV_failAfter 17 = .ok (.getfield 40, 3) := by decide +kernel
theorem dV_failAfter_20 : decode cV_failAfter 20 = .ok (.iload_n 1, 1) := by decide +kernel
theorem dV_failAfter_21 : decode cV_failAfter 21 = .ok (.invokevirtual 234, 3) := by decide +kernel
theorem dV_failAfter_24 : decode cV_failAfter 24 = .ok (.iconst 1, 1) := by decide +kernel
theorem dV_failAfter_25 : decode cV_failAfter 25 = .ok (.ireturn, 1) := by decide +kernel
abbrev cP_switchOn : ByteArray := prog_6_method_3_code
abbrev yP_switchOn : MethodName := ⟨"DrawingVault$Pages", "switchOn", "()V"⟩
theorem dP_switchOn_0 : decode cP_switchOn 0 = .ok (.aload_n 0, 1) := by decide +kernel
theorem dP_switchOn_1 : decode cP_switchOn 1 = .ok (.iconst 0, 1) := by decide +kernel
theorem dP_switchOn_2 : decode cP_switchOn 2 = .ok (.putfield 22, 3) := by decide +kernel
theorem dP_switchOn_5 : decode cP_switchOn 5 = .ok (.aload_n 0, 1) := by decide +kernel
theorem dP_switchOn_6 : decode cP_switchOn 6 = .ok (.iconst 0, 1) := by decide +kernel
theorem dP_switchOn_7 : decode cP_switchOn 7 = .ok (.putfield 15, 3) := by decide +kernel
theorem dP_switchOn_10 : decode cP_switchOn 10 = .ok (.return_, 1) := by decide +kernel
abbrev cV_drawingsOut : ByteArray := prog_1_method_57_code
abbrev yV_drawingsOut : MethodName := ⟨"DrawingVault", "drawingsOut", "()I"⟩
theorem dV_drawingsOut_0 : decode cV_drawingsOut 0 = .ok (.iconst 0, 1) := by decide +kernel
theorem dV_drawingsOut_1 : decode cV_drawingsOut 1 = .ok (.istore_n 1, 1) := by decide +kernel
theorem dV_drawingsOut_2 : decode cV_drawingsOut 2 = .ok (.iconst 0, 1) := by decide +kernel
theorem dV_drawingsOut_3 : decode cV_drawingsOut 3 = .ok (.istore_n 2, 1) := by decide +kernel
theorem dV_drawingsOut_4 : decode cV_drawingsOut 4 = .ok (.iload_n 2, 1) := by decide +kernel
theorem dV_drawingsOut_5 : decode cV_drawingsOut 5 = .ok (.aload_n 0, 1) := by decide +kernel
theorem dV_drawingsOut_6 : decode cV_drawingsOut 6 = .ok (.getfield 67, 3) := by decide +kernel
theorem dV_drawingsOut_9 : decode cV_drawingsOut 9 = .ok (.if_icmp .ge 25, 3) := by decide +kernel
theorem dV_drawingsOut_34 : decode cV_drawingsOut 34 = .ok (.iload_n 1, 1) := by decide +kernel
theorem dV_drawingsOut_35 : decode cV_drawingsOut 35 = .ok (.ireturn, 1) := by decide +kernel
abbrev cV_start : ByteArray := prog_1_method_23_code
abbrev yV_start : MethodName := ⟨"DrawingVault", "start", "()I"⟩
theorem dV_start_0 : decode cV_start 0 = .ok (.iconst 0, 1) := by decide +kernel
theorem dV_start_1 : decode cV_start 1 = .ok (.istore_n 1, 1) := by decide +kernel
theorem dV_start_2 : decode cV_start 2 = .ok (.iload_n 1, 1) := by decide +kernel
theorem dV_start_3 : decode cV_start 3 = .ok (.aload_n 0, 1) := by decide +kernel
theorem dV_start_4 : decode cV_start 4 = .ok (.getfield 67, 3) := by decide +kernel
theorem dV_start_7 : decode cV_start 7 = .ok (.if_icmp .ge 30, 3) := by decide +kernel
theorem dV_start_37 : decode cV_start 37 = .ok (.aload_n 0, 1) := by decide +kernel
theorem dV_start_38 : decode cV_start 38 = .ok (.getfield 40, 3) := by decide +kernel
theorem dV_start_41 : decode cV_start 41 = .ok (.invokevirtual 244, 3) := by decide +kernel
theorem dV_start_44 : decode cV_start 44 = .ok (.aload_n 0, 1) := by decide +kernel
theorem dV_start_45 : decode cV_start 45 = .ok (.invokevirtual 247, 3) := by decide +kernel
theorem dV_start_48 : decode cV_start 48 = .ok (.ireturn, 1) := by decide +kernel
abbrev cV_user : ByteArray := prog_1_method_20_code
abbrev yV_user : MethodName := ⟨"DrawingVault", "user", "(IZI)I"⟩
theorem dV_user_0 : decode cV_user 0 = .ok (.aload_n 0, 1) := by decide +kernel
theorem dV_user_1 : decode cV_user 1 = .ok (.iload_n 1, 1) := by decide +kernel
theorem dV_user_2 : decode cV_user 2 = .ok (.invokevirtual 74, 3) := by decide +kernel
theorem dV_user_5 : decode cV_user 5 = .ok (.ifnonnull 5, 3) := by decide +kernel
theorem dV_user_8 : decode cV_user 8 = .ok (.iconst (-1), 1) := by decide +kernel
theorem dV_user_9 : decode cV_user 9 = .ok (.ireturn, 1) := by decide +kernel
abbrev cK_clear : ByteArray := prog_3_method_2_code
abbrev yK_clear : MethodName := ⟨"DrawingVault$ChunkSet", "clear", "()V"⟩
theorem dK_clear_0 : decode cK_clear 0 = .ok (.aload_n 0, 1) := by decide +kernel
theorem dK_clear_1 : decode cK_clear 1 = .ok (.iconst 0, 1) := by decide +kernel
theorem dK_clear_2 : decode cK_clear 2 = .ok (.putfield 19, 3) := by decide +kernel
theorem dK_clear_5 : decode cK_clear 5 = .ok (.return_, 1) := by decide +kernel
abbrev cV_chunksOfRevisions : ByteArray := prog_1_method_59_code
abbrev yV_chunksOfRevisions : MethodName := ⟨"DrawingVault", "chunksOfRevisions", "()I"⟩
theorem dV_chunksOfRevisions_0 : decode cV_chunksOfRevisions 0 = .ok (.aload_n 0, 1) := by decide +kernel
theorem dV_chunksOfRevisions_1 : decode cV_chunksOfRevisions 1 = .ok (.getfield 33, 3) := by decide +kernel
theorem dV_chunksOfRevisions_4 : decode cV_chunksOfRevisions 4 = .ok (.invokevirtual 345, 3) := by decide +kernel
theorem dV_chunksOfRevisions_7 : decode cV_chunksOfRevisions 7 = .ok (.iconst 0, 1) := by decide +kernel
theorem dV_chunksOfRevisions_8 : decode cV_chunksOfRevisions 8 = .ok (.istore_n 1, 1) := by decide +kernel
theorem dV_chunksOfRevisions_9 : decode cV_chunksOfRevisions 9 = .ok (.iload_n 1, 1) := by decide +kernel
theorem dV_chunksOfRevisions_10 : decode cV_chunksOfRevisions 10 = .ok (.aload_n 0, 1) := by decide +kernel
theorem dV_chunksOfRevisions_11 : decode cV_chunksOfRevisions 11 = .ok (.getfield 67, 3) := by decide +kernel
theorem dV_chunksOfRevisions_14 : decode cV_chunksOfRevisions 14 = .ok (.if_icmp .ge 51, 3) := by decide +kernel
theorem dV_chunksOfRevisions_65 : decode cV_chunksOfRevisions 65 = .ok (.aload_n 0, 1) := by decide +kernel
theorem dV_chunksOfRevisions_66 : decode cV_chunksOfRevisions 66 = .ok (.getfield 33, 3) := by decide +kernel
theorem dV_chunksOfRevisions_69 : decode cV_chunksOfRevisions 69 = .ok (.getfield 349, 3) := by decide +kernel
theorem dV_chunksOfRevisions_72 : decode cV_chunksOfRevisions 72 = .ok (.ireturn, 1) := by decide +kernel
abbrev cV_chunksKept : ByteArray := prog_1_method_60_code
abbrev yV_chunksKept : MethodName := ⟨"DrawingVault", "chunksKept", "()I"⟩
theorem dV_chunksKept_0 : decode cV_chunksKept 0 = .ok (.aload_n 0, 1) := by decide +kernel
theorem dV_chunksKept_1 : decode cV_chunksKept 1 = .ok (.invokevirtual 350, 3) := by decide +kernel
theorem dV_chunksKept_4 : decode cV_chunksKept 4 = .ok (.pop, 1) := by decide +kernel
theorem dV_chunksKept_5 : decode cV_chunksKept 5 = .ok (.iconst 0, 1) := by decide +kernel
theorem dV_chunksKept_6 : decode cV_chunksKept 6 = .ok (.istore_n 1, 1) := by decide +kernel
theorem dV_chunksKept_7 : decode cV_chunksKept 7 = .ok (.iload_n 1, 1) := by decide +kernel
theorem dV_chunksKept_8 : decode cV_chunksKept 8 = .ok (.aload_n 0, 1) := by decide +kernel
theorem dV_chunksKept_9 : decode cV_chunksKept 9 = .ok (.getfield 67, 3) := by decide +kernel
theorem dV_chunksKept_12 : decode cV_chunksKept 12 = .ok (.if_icmp .ge 25, 3) := by decide +kernel
theorem dV_chunksKept_37 : decode cV_chunksKept 37 = .ok (.aload_n 0, 1) := by decide +kernel
theorem dV_chunksKept_38 : decode cV_chunksKept 38 = .ok (.getfield 33, 3) := by decide +kernel
theorem dV_chunksKept_41 : decode cV_chunksKept 41 = .ok (.getfield 349, 3) := by decide +kernel
theorem dV_chunksKept_44 : decode cV_chunksKept 44 = .ok (.ireturn, 1) := by decide +kernel
abbrev cV_baselinesMade : ByteArray := prog_1_method_58_code
abbrev yV_baselinesMade : MethodName := ⟨"DrawingVault", "baselinesMade", "()I"⟩
theorem dV_baselinesMade_0 : decode cV_baselinesMade 0 = .ok (.iconst 0, 1) := by decide +kernel
theorem dV_baselinesMade_1 : decode cV_baselinesMade 1 = .ok (.istore_n 1, 1) := by decide +kernel
theorem dV_baselinesMade_2 : decode cV_baselinesMade 2 = .ok (.iconst 0, 1) := by decide +kernel
theorem dV_baselinesMade_3 : decode cV_baselinesMade 3 = .ok (.istore_n 2, 1) := by decide +kernel
theorem dV_baselinesMade_4 : decode cV_baselinesMade 4 = .ok (.iload_n 2, 1) := by decide +kernel
theorem dV_baselinesMade_5 : decode cV_baselinesMade 5 = .ok (.bipush 10, 2) := by decide +kernel
theorem dV_baselinesMade_7 : decode cV_baselinesMade 7 = .ok (.if_icmp .ge 21, 3) := by decide +kernel
theorem dV_baselinesMade_10 : decode cV_baselinesMade 10 = .ok (.aload_n 0, 1) := by decide +kernel
theorem dV_baselinesMade_11 : decode cV_baselinesMade 11 = .ok (.getfield 21, 3) := by decide +kernel
theorem dV_baselinesMade_14 : decode cV_baselinesMade 14 = .ok (.iload_n 2, 1) := by decide +kernel
theorem dV_baselinesMade_15 : decode cV_baselinesMade 15 = .ok (.aaload, 1) := by decide +kernel
theorem dV_baselinesMade_16 : decode cV_baselinesMade 16 = .ok (.ifnull 6, 3) := by decide +kernel
theorem dV_baselinesMade_22 : decode cV_baselinesMade 22 = .ok (.iinc 2 1, 3) := by decide +kernel
theorem dV_baselinesMade_25 : decode cV_baselinesMade 25 = .ok (.goto (-21), 3) := by decide +kernel
theorem dV_baselinesMade_28 : decode cV_baselinesMade 28 = .ok (.iload_n 1, 1) := by decide +kernel
theorem dV_baselinesMade_29 : decode cV_baselinesMade 29 = .ok (.ireturn, 1) := by decide +kernel
abbrev cV_count : ByteArray := prog_1_method_24_code
abbrev yV_count : MethodName := ⟨"DrawingVault", "count", "(I)I"⟩
theorem dV_count_0 : decode cV_count 0 = .ok (.iload_n 1, 1) := by decide +kernel
theorem dV_count_1 : decode cV_count 1 = .ok (.tableswitch 107 0 7 #[47, 52, 57, 62, 70, 78, 86, 91], 47) := by decide +kernel
theorem dV_count_48 : decode cV_count 48 = .ok (.aload_n 0, 1) := by decide +kernel
theorem dV_count_49 : decode cV_count 49 = .ok (.getfield 67, 3) := by decide +kernel
theorem dV_count_52 : decode cV_count 52 = .ok (.ireturn, 1) := by decide +kernel
theorem dV_count_53 : decode cV_count 53 = .ok (.aload_n 0, 1) := by decide +kernel
theorem dV_count_54 : decode cV_count 54 = .ok (.getfield 71, 3) := by decide +kernel
theorem dV_count_57 : decode cV_count 57 = .ok (.ireturn, 1) := by decide +kernel
theorem dV_count_58 : decode cV_count 58 = .ok (.aload_n 0, 1) := by decide +kernel
theorem dV_count_59 : decode cV_count 59 = .ok (.invokevirtual 250, 3) := by decide +kernel
theorem dV_count_62 : decode cV_count 62 = .ok (.ireturn, 1) := by decide +kernel
theorem dV_count_63 : decode cV_count 63 = .ok (.aload_n 0, 1) := by decide +kernel
theorem dV_count_64 : decode cV_count 64 = .ok (.getfield 40, 3) := by decide +kernel
theorem dV_count_67 : decode cV_count 67 = .ok (.getfield 253, 3) := by decide +kernel
theorem dV_count_70 : decode cV_count 70 = .ok (.ireturn, 1) := by decide +kernel
theorem dV_count_71 : decode cV_count 71 = .ok (.aload_n 0, 1) := by decide +kernel
theorem dV_count_72 : decode cV_count 72 = .ok (.getfield 40, 3) := by decide +kernel
theorem dV_count_75 : decode cV_count 75 = .ok (.getfield 256, 3) := by decide +kernel
theorem dV_count_78 : decode cV_count 78 = .ok (.ireturn, 1) := by decide +kernel
theorem dV_count_79 : decode cV_count 79 = .ok (.aload_n 0, 1) := by decide +kernel
theorem dV_count_80 : decode cV_count 80 = .ok (.getfield 40, 3) := by decide +kernel
theorem dV_count_83 : decode cV_count 83 = .ok (.getfield 259, 3) := by decide +kernel
theorem dV_count_86 : decode cV_count 86 = .ok (.ireturn, 1) := by decide +kernel
theorem dV_count_87 : decode cV_count 87 = .ok (.aload_n 0, 1) := by decide +kernel
theorem dV_count_88 : decode cV_count 88 = .ok (.invokevirtual 262, 3) := by decide +kernel
theorem dV_count_91 : decode cV_count 91 = .ok (.ireturn, 1) := by decide +kernel
theorem dV_count_92 : decode cV_count 92 = .ok (.aload_n 0, 1) := by decide +kernel
theorem dV_count_93 : decode cV_count 93 = .ok (.getfield 40, 3) := by decide +kernel
theorem dV_count_96 : decode cV_count 96 = .ok (.getfield 230, 3) := by decide +kernel
theorem dV_count_99 : decode cV_count 99 = .ok (.ifCond .eq 7, 3) := by decide +kernel
theorem dV_count_106 : decode cV_count 106 = .ok (.iconst 0, 1) := by decide +kernel
theorem dV_count_107 : decode cV_count 107 = .ok (.ireturn, 1) := by decide +kernel
theorem dV_count_108 : decode cV_count 108 = .ok (.iconst (-1), 1) := by decide +kernel
theorem dV_count_109 : decode cV_count 109 = .ok (.ireturn, 1) := by decide +kernel

/-- the words of the tables that every callee may carry -/
def aw : List Cond := lw_tbl.filter goodWord
theorem aw_in {w : Cond} (h : w ∈ lw_tbl) (g : goodWord w = true) : w ∈ aw := List.mem_filter.mpr ⟨h, g⟩
theorem aw_good {w : Cond} (h : w ∈ aw) : (w.onTables && w.keeps) = true ∨ ∃ ty, w = .arrayClass ty := good_of_word (List.mem_filter.mp h).2
theorem tb_1 {w : Cond} (h : w ∈ tables_1_1) : w ∈ lw_tbl := List.mem_append_right _ (List.mem_append_left _ h)
theorem tb_2 {w : Cond} (h : w ∈ tables_1_2) : w ∈ lw_tbl := List.mem_append_right _ (List.mem_append_right _ (List.mem_append_left _ h))
theorem tb_3 {w : Cond} (h : w ∈ tables_1_3) : w ∈ lw_tbl := List.mem_append_right _ (List.mem_append_right _ (List.mem_append_right _ (List.mem_append_left _ h)))
theorem tb_4 {w : Cond} (h : w ∈ tables_1_4) : w ∈ lw_tbl := List.mem_append_right _ (List.mem_append_right _ (List.mem_append_right _ (List.mem_append_right _ (List.mem_append_left _ h))))
theorem tb_5 {w : Cond} (h : w ∈ tables_1_5) : w ∈ lw_tbl := List.mem_append_right _ (List.mem_append_right _ (List.mem_append_right _ (List.mem_append_right _ (List.mem_append_right _ h))))
theorem tb_s {q : MethodName × Nat} (h : q ∈ lw_privs) : Cond.selects q.1.cls q.1 q.1 ∈ lw_tbl := List.mem_append_left _ (List.mem_map.mpr ⟨q, h, rfl⟩)
theorem gI {c : Cond} (h : c ∈ aw) : GoodIn aw (c :: aw) := fun w hw => (List.mem_cons.mp hw).elim (fun e => e ▸ ⟨h, aw_good h⟩) (fun h2 => ⟨h2, aw_good h2⟩)
theorem gA {l1 l2 : List Cond} (h1 : ∀ w ∈ l1, w ∈ aw) (h2 : GoodIn aw l2) : GoodIn aw (l1 ++ l2) := fun w hw => (List.mem_append.mp hw).elim (fun h => ⟨h1 w h, aw_good (h1 w h)⟩) (h2 w)
theorem gV {own C : String} {idx : Nat} {y : MethodName} {c : Cond} (h1 : Cond.methodLink own idx y ∈ aw) (h2 : Cond.instanceMethod y ∈ aw) (h3 : Cond.selects C y y ∈ aw) (h4 : Cond.initialized C ∈ aw) (h5 : c ∈ aw) : GoodIn aw (wsV own idx C y (c :: aw)) :=
  gA (fun w hw => by simp only [List.mem_cons, List.not_mem_nil, or_false] at hw; rcases hw with rfl | rfl | rfl | rfl <;> assumption) (gI h5)
theorem gS {own : String} {idx : Nat} {y : MethodName} {c : Cond} (h1 : Cond.methodLink own idx y ∈ aw) (h2 : Cond.static y ∈ aw) (h3 : Cond.initialized own ∈ aw) (h5 : c ∈ aw) : GoodIn aw (wsS own idx y (c :: aw)) :=
  gA (fun w hw => by simp only [List.mem_cons, List.not_mem_nil, or_false] at hw; rcases hw with rfl | rfl | rfl <;> assumption) (gI h5)
theorem gSU {own : String} {idx : Nat} {y : MethodName} {c : Cond} (h1 : Cond.methodLink own idx y ∈ aw) (h2 : Cond.static y ∈ aw) (h3 : Cond.initialized y.cls ∈ aw) (h5 : c ∈ aw) : GoodIn aw (va_wsS own idx y (c :: aw)) :=
  gA (fun w hw => by simp only [List.mem_cons, List.not_mem_nil, or_false] at hw; rcases hw with rfl | rfl | rfl <;> assumption) (gI h5)
/-- the start of a method that only reads -/
def pR (D : va_G) (ws : va_W) (tys : List (ClassId × FieldType)) (av : List Value) : Array Value → State → Prop := va_Pc av (fun U => va_P D kCl ws U.heap ∧ va_K D kCl tys U)
theorem pR_blind {D : va_G} {ws : va_W} {tys : List (ClassId × FieldType)} {av : List Value} : FrameBlind (pR D ws tys av) := fun a U g mk h => ⟨h.1, h.2.1, va_K.moved (u := U) (U := U.calling g mk a) (Vm.Alike.refl U.vm) h.2.2⟩
theorem pR_pre {D : va_G} {ws : va_W} {tys : List (ClassId × FieldType)} {av : List Value} {s : State} {H : Heap} (hP : va_P D kCl ws H) (hK : va_K D kCl tys s) : ∀ U : State, U.heap = H → s.WarmedH U.vm → pR D ws tys av av.toArray U := fun U hU hW => ⟨rfl, by rw [hU]; exact hP, va_K.moved hW.alike hK⟩
/-- the start of a method that writes in its world -/
def pW (D : va_G) (sz : Nat) (ws : va_W) (tys : List (ClassId × FieldType)) (av : List Value) : Array Value → State → Prop := va_Pc av (fun U => U.heap.size = sz ∧ va_P D kCl ws U.heap ∧ va_K D kCl tys U ∧ va_D (fun _ => True) ws)
theorem pW_blind {D : va_G} {sz : Nat} {ws : va_W} {tys : List (ClassId × FieldType)} {av : List Value} : FrameBlind (pW D sz ws tys av) := fun a U g mk h => ⟨h.1, h.2.1, h.2.2.1, va_K.moved (u := U) (U := U.calling g mk a) (Vm.Alike.refl U.vm) h.2.2.2.1, h.2.2.2.2⟩
theorem pW_pre {D : va_G} {ws : va_W} {tys : List (ClassId × FieldType)} {av : List Value} {s : State} {H : Heap} {A : Nat → Prop} (hP : va_P D kCl ws H) (hK : va_K D kCl tys s) (hD : va_D A ws) : ∀ U : State, U.heap = H → s.WarmedH U.vm → pW D H.size ws tys av av.toArray U := fun U hU hW => ⟨rfl, by rw [hU], by rw [hU]; exact hP, va_K.moved hW.alike hK, hD.weaken (fun _ _ _ _ => trivial)⟩
/-- the world behind a method -/
def wW (D : va_G) (A : Nat → Prop) (ws : va_W) (tys : List (ClassId × FieldType)) (t : State) : Prop := va_P D kCl ws t.heap ∧ va_K D kCl tys t ∧ va_D A ws
theorem vp_in_lit (i : Int32) (n : Nat) (h : ¬ (i < 0 ∨ n ≤ i.toNatClampNeg)) : vp_in i n := h
theorem vin_of {i : Int32} {n : Nat} {k : Int32} (hk : k.toInt = n) (h1 : ¬ i < 0) (h2 : ¬ k ≤ i) : vp_in i n := vp_in_iff.mpr ⟨by have := Int32.not_lt.mp h1; exact Int32.le_iff_toInt_le.mp this, by rw [← hk]; exact Int32.lt_iff_toInt_lt.mp (Int32.not_le.mp h2)⟩

theorem tsw_lo {w : Int32} (h : w < 0) : w.toInt < 0 := Int32.lt_iff_toInt_lt.mp h
theorem tsw_hi {w : Int32} {n : Nat} (hn : n + 1 < 2 ^ 31) (h : nI (n + 1) ≤ w) : (n : Int) < w.toInt := by
  have h1 := Int32.le_iff_toInt_le.mp h
  rw [nI_toInt hn] at h1
  omega
/-- what count answers on a fresh object -/
def cnt0 (w : Int32) : Int32 := if w = 3 then 400 else if w < 0 ∨ nI 8 ≤ w then -1 else 0
theorem cnt0_lo {w : Int32} (h : w < 0) : (-1 : Int32) = cnt0 w := by
  unfold cnt0
  rw [if_neg (fun e => by subst e; exact absurd h (by decide)), if_pos (Or.inl h)]
theorem cnt0_hi {w : Int32} (h : nI 8 ≤ w) : (-1 : Int32) = cnt0 w := by
  unfold cnt0
  rw [if_neg (fun e => by subst e; exact absurd h (by decide)), if_pos (Or.inr h)]
theorem wd_0 : (.code ⟨"DrawingVault", "isPerson", "(I)Z"⟩ prog_1_method_42_code 1 (Option.some .boolean) : Cond) ∈ aw := aw_in (tb_2 (List.mem_of_getElem? (i := 72) rfl)) rfl
theorem wd_1 : (.methodLink "DrawingVault" 47 ⟨"DrawingVault", "isPerson", "(I)Z"⟩ : Cond) ∈ aw := aw_in (tb_2 (List.mem_of_getElem? (i := 70) rfl)) rfl
theorem wd_2 : (.static ⟨"DrawingVault", "isPerson", "(I)Z"⟩ : Cond) ∈ aw := aw_in (tb_2 (List.mem_of_getElem? (i := 71) rfl)) rfl
theorem wd_3 : (.initialized "DrawingVault" : Cond) ∈ aw := aw_in (tb_1 (List.mem_of_getElem? (i := 1) rfl)) rfl
theorem wd_4 : (.fieldLink "DrawingVault" 9 "DrawingVault" "rightsOf" "[I" : Cond) ∈ aw := aw_in (tb_1 (List.mem_of_getElem? (i := 99) rfl)) rfl
theorem wd_5 : (.fieldLink "DrawingVault" 40 "DrawingVault" "pages" "LDrawingVault$Pages;" : Cond) ∈ aw := aw_in (tb_1 (List.mem_of_getElem? (i := 106) rfl)) rfl
theorem wd_6 : (.fieldLink "DrawingVault" 230 "DrawingVault$Pages" "failed" "Z" : Cond) ∈ aw := aw_in (tb_1 (List.mem_of_getElem? (i := 83) rfl)) rfl
theorem wd_7 : (.fieldLink "DrawingVault" 67 "DrawingVault" "drawingCount" "I" : Cond) ∈ aw := aw_in (tb_1 (List.mem_of_getElem? (i := 101) rfl)) rfl
theorem wd_8 : (.code ⟨"DrawingVault", "drawingAt", "(I)LDrawingVault$Drawing;"⟩ prog_1_method_44_code 2 (Option.some (.object "DrawingVault$Drawing")) : Cond) ∈ aw := aw_in (tb_1 (List.mem_of_getElem? (i := 138) rfl)) rfl
theorem wd_9 : (.methodLink "DrawingVault" 74 ⟨"DrawingVault", "drawingAt", "(I)LDrawingVault$Drawing;"⟩ : Cond) ∈ aw := aw_in (tb_1 (List.mem_of_getElem? (i := 135) rfl)) rfl
theorem wd_10 : (.instanceMethod ⟨"DrawingVault", "drawingAt", "(I)LDrawingVault$Drawing;"⟩ : Cond) ∈ aw := aw_in (tb_1 (List.mem_of_getElem? (i := 137) rfl)) rfl
theorem wd_11 : (.selects "DrawingVault" ⟨"DrawingVault", "drawingAt", "(I)LDrawingVault$Drawing;"⟩ ⟨"DrawingVault", "drawingAt", "(I)LDrawingVault$Drawing;"⟩ : Cond) ∈ aw := aw_in (tb_s (q := (⟨"DrawingVault", "drawingAt", "(I)LDrawingVault$Drawing;"⟩, _)) (List.mem_append_left _ (List.mem_of_getElem? (i := 0) rfl))) rfl
theorem wd_12 : (.fieldLink "DrawingVault" 21 "DrawingVault" "baselines" "[LDrawingVault$Baseline;" : Cond) ∈ aw := aw_in (tb_1 (List.mem_of_getElem? (i := 103) rfl)) rfl
theorem wd_13 : (.code ⟨"DrawingVault", "hasRight", "(II)Z"⟩ prog_1_method_43_code 3 (Option.some .boolean) : Cond) ∈ aw := aw_in (tb_2 (List.mem_of_getElem? (i := 123) rfl)) rfl
theorem wd_14 : (.methodLink "DrawingVault" 284 ⟨"DrawingVault", "hasRight", "(II)Z"⟩ : Cond) ∈ aw := aw_in (tb_2 (List.mem_of_getElem? (i := 120) rfl)) rfl
theorem wd_15 : (.instanceMethod ⟨"DrawingVault", "hasRight", "(II)Z"⟩ : Cond) ∈ aw := aw_in (tb_2 (List.mem_of_getElem? (i := 122) rfl)) rfl
theorem wd_16 : (.selects "DrawingVault" ⟨"DrawingVault", "hasRight", "(II)Z"⟩ ⟨"DrawingVault", "hasRight", "(II)Z"⟩ : Cond) ∈ aw := aw_in (tb_s (q := (⟨"DrawingVault", "hasRight", "(II)Z"⟩, _)) (List.mem_append_left _ (List.mem_of_getElem? (i := 15) rfl))) rfl
theorem wd_17 : (.code ⟨"DrawingVault", "revisionAt", "(II)LDrawingVault$Revision;"⟩ prog_1_method_45_code 4 (Option.some (.object "DrawingVault$Revision")) : Cond) ∈ aw := aw_in (tb_3 (List.mem_of_getElem? (i := 84) rfl)) rfl
theorem wd_18 : (.methodLink "DrawingVault" 163 ⟨"DrawingVault", "revisionAt", "(II)LDrawingVault$Revision;"⟩ : Cond) ∈ aw := aw_in (tb_3 (List.mem_of_getElem? (i := 81) rfl)) rfl
theorem wd_19 : (.instanceMethod ⟨"DrawingVault", "revisionAt", "(II)LDrawingVault$Revision;"⟩ : Cond) ∈ aw := aw_in (tb_3 (List.mem_of_getElem? (i := 83) rfl)) rfl
theorem wd_20 : (.selects "DrawingVault" ⟨"DrawingVault", "revisionAt", "(II)LDrawingVault$Revision;"⟩ ⟨"DrawingVault", "revisionAt", "(II)LDrawingVault$Revision;"⟩ : Cond) ∈ aw := aw_in (tb_s (q := (⟨"DrawingVault", "revisionAt", "(II)LDrawingVault$Revision;"⟩, _)) (List.mem_append_right _ (List.mem_append_left _ (List.mem_of_getElem? (i := 5) rfl)))) rfl
theorem wd_21 : (.fieldLink "DrawingVault" 160 "DrawingVault" "reason" "I" : Cond) ∈ aw := aw_in (tb_1 (List.mem_of_getElem? (i := 107) rfl)) rfl
theorem wd_22 : (.fieldLink "DrawingVault$Pages" 15 "DrawingVault$Pages" "failureAhead" "Z" : Cond) ∈ aw := aw_in (tb_1 (List.mem_of_getElem? (i := 84) rfl)) rfl
theorem wd_23 : (.fieldLink "DrawingVault" 253 "DrawingVault$Pages" "free" "I" : Cond) ∈ aw := aw_in (tb_1 (List.mem_of_getElem? (i := 77) rfl)) rfl
theorem wd_24 : (.code ⟨"DrawingVault$Pages", "failsBy", "(I)Z"⟩ prog_6_method_4_code 2 (Option.some .boolean) : Cond) ∈ aw := aw_in (tb_2 (List.mem_of_getElem? (i := 84) rfl)) rfl
theorem wd_25 : (.methodLink "DrawingVault" 268 ⟨"DrawingVault$Pages", "failsBy", "(I)Z"⟩ : Cond) ∈ aw := aw_in (tb_2 (List.mem_of_getElem? (i := 81) rfl)) rfl
theorem wd_26 : (.instanceMethod ⟨"DrawingVault$Pages", "failsBy", "(I)Z"⟩ : Cond) ∈ aw := aw_in (tb_2 (List.mem_of_getElem? (i := 82) rfl)) rfl
theorem wd_27 : (.selects "DrawingVault$Pages" ⟨"DrawingVault$Pages", "failsBy", "(I)Z"⟩ ⟨"DrawingVault$Pages", "failsBy", "(I)Z"⟩ : Cond) ∈ aw := aw_in (tb_2 (List.mem_of_getElem? (i := 83) rfl)) rfl
theorem wd_28 : (.initialized "DrawingVault$Pages" : Cond) ∈ aw := aw_in (tb_1 (List.mem_of_getElem? (i := 5) rfl)) rfl
theorem wd_29 : (.code ⟨"DrawingVault", "allowed", "(I)Z"⟩ prog_1_method_26_code 2 (Option.some .boolean) : Cond) ∈ aw := aw_in (tb_2 (List.mem_of_getElem? (i := 80) rfl)) rfl
theorem wd_30 : (.methodLink "DrawingVault" 100 ⟨"DrawingVault", "allowed", "(I)Z"⟩ : Cond) ∈ aw := aw_in (tb_2 (List.mem_of_getElem? (i := 77) rfl)) rfl
theorem wd_31 : (.instanceMethod ⟨"DrawingVault", "allowed", "(I)Z"⟩ : Cond) ∈ aw := aw_in (tb_2 (List.mem_of_getElem? (i := 79) rfl)) rfl
theorem wd_32 : (.selects "DrawingVault" ⟨"DrawingVault", "allowed", "(I)Z"⟩ ⟨"DrawingVault", "allowed", "(I)Z"⟩ : Cond) ∈ aw := aw_in (tb_s (q := (⟨"DrawingVault", "allowed", "(I)Z"⟩, _)) (List.mem_append_left _ (List.mem_of_getElem? (i := 11) rfl))) rfl
theorem wd_33 : (.code ⟨"DrawingVault", "mayWrite", "(II)Z"⟩ prog_1_method_27_code 3 (Option.some .boolean) : Cond) ∈ aw := aw_in (tb_2 (List.mem_of_getElem? (i := 76) rfl)) rfl
theorem wd_34 : (.methodLink "DrawingVault" 51 ⟨"DrawingVault", "mayWrite", "(II)Z"⟩ : Cond) ∈ aw := aw_in (tb_2 (List.mem_of_getElem? (i := 73) rfl)) rfl
theorem wd_35 : (.instanceMethod ⟨"DrawingVault", "mayWrite", "(II)Z"⟩ : Cond) ∈ aw := aw_in (tb_2 (List.mem_of_getElem? (i := 75) rfl)) rfl
theorem wd_36 : (.selects "DrawingVault" ⟨"DrawingVault", "mayWrite", "(II)Z"⟩ ⟨"DrawingVault", "mayWrite", "(II)Z"⟩ : Cond) ∈ aw := aw_in (tb_s (q := (⟨"DrawingVault", "mayWrite", "(II)Z"⟩, _)) (List.mem_append_left _ (List.mem_of_getElem? (i := 10) rfl))) rfl
theorem wd_37 : (.code ⟨"DrawingVault", "needPower", "()V"⟩ prog_1_method_25_code 1 (Option.none : Option Jvm.ClassFile.FieldType) : Cond) ∈ aw := aw_in (tb_2 (List.mem_of_getElem? (i := 7) rfl)) rfl
theorem wd_38 : (.methodLink "DrawingVault" 44 ⟨"DrawingVault", "needPower", "()V"⟩ : Cond) ∈ aw := aw_in (tb_2 (List.mem_of_getElem? (i := 4) rfl)) rfl
theorem wd_39 : (.instanceMethod ⟨"DrawingVault", "needPower", "()V"⟩ : Cond) ∈ aw := aw_in (tb_2 (List.mem_of_getElem? (i := 6) rfl)) rfl
theorem wd_40 : (.selects "DrawingVault" ⟨"DrawingVault", "needPower", "()V"⟩ ⟨"DrawingVault", "needPower", "()V"⟩ : Cond) ∈ aw := aw_in (tb_s (q := (⟨"DrawingVault", "needPower", "()V"⟩, _)) (List.mem_append_left _ (List.mem_of_getElem? (i := 8) rfl))) rfl
theorem wd_41 : (.code ⟨"DrawingVault", "drawingRefusal", "(I)I"⟩ prog_1_method_30_code 3 (Option.some .int) : Cond) ∈ aw := aw_in (tb_2 (List.mem_of_getElem? (i := 119) rfl)) rfl
theorem wd_42 : (.methodLink "DrawingVault" 59 ⟨"DrawingVault", "drawingRefusal", "(I)I"⟩ : Cond) ∈ aw := aw_in (tb_2 (List.mem_of_getElem? (i := 116) rfl)) rfl
theorem wd_43 : (.instanceMethod ⟨"DrawingVault", "drawingRefusal", "(I)I"⟩ : Cond) ∈ aw := aw_in (tb_2 (List.mem_of_getElem? (i := 118) rfl)) rfl
theorem wd_44 : (.selects "DrawingVault" ⟨"DrawingVault", "drawingRefusal", "(I)I"⟩ ⟨"DrawingVault", "drawingRefusal", "(I)I"⟩ : Cond) ∈ aw := aw_in (tb_s (q := (⟨"DrawingVault", "drawingRefusal", "(I)I"⟩, _)) (List.mem_append_left _ (List.mem_of_getElem? (i := 14) rfl))) rfl
theorem wd_45 : (.code ⟨"DrawingVault", "outRefusal", "(LDrawingVault$Drawing;I)I"⟩ prog_1_method_31_code 3 (Option.some .int) : Cond) ∈ aw := aw_in (tb_2 (List.mem_of_getElem? (i := 216) rfl)) rfl
theorem wd_46 : (.methodLink "DrawingVault" 78 ⟨"DrawingVault", "outRefusal", "(LDrawingVault$Drawing;I)I"⟩ : Cond) ∈ aw := aw_in (tb_2 (List.mem_of_getElem? (i := 213) rfl)) rfl
theorem wd_47 : (.instanceMethod ⟨"DrawingVault", "outRefusal", "(LDrawingVault$Drawing;I)I"⟩ : Cond) ∈ aw := aw_in (tb_2 (List.mem_of_getElem? (i := 215) rfl)) rfl
theorem wd_48 : (.selects "DrawingVault" ⟨"DrawingVault", "outRefusal", "(LDrawingVault$Drawing;I)I"⟩ ⟨"DrawingVault", "outRefusal", "(LDrawingVault$Drawing;I)I"⟩ : Cond) ∈ aw := aw_in (tb_s (q := (⟨"DrawingVault", "outRefusal", "(LDrawingVault$Drawing;I)I"⟩, _)) (List.mem_append_right _ (List.mem_append_left _ (List.mem_of_getElem? (i := 0) rfl)))) rfl
theorem wd_49 : (.code ⟨"DrawingVault", "copyRefusal", "(LDrawingVault$Drawing;I)I"⟩ prog_1_method_32_code 3 (Option.some .int) : Cond) ∈ aw := aw_in (tb_2 (List.mem_of_getElem? (i := 231) rfl)) rfl
theorem wd_50 : (.methodLink "DrawingVault" 85 ⟨"DrawingVault", "copyRefusal", "(LDrawingVault$Drawing;I)I"⟩ : Cond) ∈ aw := aw_in (tb_2 (List.mem_of_getElem? (i := 228) rfl)) rfl
theorem wd_51 : (.instanceMethod ⟨"DrawingVault", "copyRefusal", "(LDrawingVault$Drawing;I)I"⟩ : Cond) ∈ aw := aw_in (tb_2 (List.mem_of_getElem? (i := 230) rfl)) rfl
theorem wd_52 : (.selects "DrawingVault" ⟨"DrawingVault", "copyRefusal", "(LDrawingVault$Drawing;I)I"⟩ ⟨"DrawingVault", "copyRefusal", "(LDrawingVault$Drawing;I)I"⟩ : Cond) ∈ aw := aw_in (tb_s (q := (⟨"DrawingVault", "copyRefusal", "(LDrawingVault$Drawing;I)I"⟩, _)) (List.mem_append_right _ (List.mem_append_left _ (List.mem_of_getElem? (i := 1) rfl)))) rfl
theorem wd_53 : (.code ⟨"DrawingVault", "checkRefusal", "(III)I"⟩ prog_1_method_35_code 6 (Option.some .int) : Cond) ∈ aw := aw_in (tb_3 (List.mem_of_getElem? (i := 103) rfl)) rfl
theorem wd_54 : (.methodLink "DrawingVault" 136 ⟨"DrawingVault", "checkRefusal", "(III)I"⟩ : Cond) ∈ aw := aw_in (tb_3 (List.mem_of_getElem? (i := 100) rfl)) rfl
theorem wd_55 : (.instanceMethod ⟨"DrawingVault", "checkRefusal", "(III)I"⟩ : Cond) ∈ aw := aw_in (tb_3 (List.mem_of_getElem? (i := 102) rfl)) rfl
theorem wd_56 : (.selects "DrawingVault" ⟨"DrawingVault", "checkRefusal", "(III)I"⟩ ⟨"DrawingVault", "checkRefusal", "(III)I"⟩ : Cond) ∈ aw := aw_in (tb_s (q := (⟨"DrawingVault", "checkRefusal", "(III)I"⟩, _)) (List.mem_append_right _ (List.mem_append_left _ (List.mem_of_getElem? (i := 6) rfl)))) rfl
theorem wd_57 : (.code ⟨"DrawingVault", "becomes", "(IIII)Z"⟩ prog_1_method_29_code 6 (Option.some .boolean) : Cond) ∈ aw := aw_in (tb_3 (List.mem_of_getElem? (i := 107) rfl)) rfl
theorem wd_58 : (.methodLink "DrawingVault" 140 ⟨"DrawingVault", "becomes", "(IIII)Z"⟩ : Cond) ∈ aw := aw_in (tb_3 (List.mem_of_getElem? (i := 104) rfl)) rfl
theorem wd_59 : (.instanceMethod ⟨"DrawingVault", "becomes", "(IIII)Z"⟩ : Cond) ∈ aw := aw_in (tb_3 (List.mem_of_getElem? (i := 106) rfl)) rfl
theorem wd_60 : (.selects "DrawingVault" ⟨"DrawingVault", "becomes", "(IIII)Z"⟩ ⟨"DrawingVault", "becomes", "(IIII)Z"⟩ : Cond) ∈ aw := aw_in (tb_s (q := (⟨"DrawingVault", "becomes", "(IIII)Z"⟩, _)) (List.mem_append_right _ (List.mem_append_left _ (List.mem_of_getElem? (i := 7) rfl)))) rfl
theorem wd_61 : (.code ⟨"DrawingVault", "releaseRefusal", "(III)I"⟩ prog_1_method_36_code 5 (Option.some .int) : Cond) ∈ aw := aw_in (tb_3 (List.mem_of_getElem? (i := 118) rfl)) rfl
theorem wd_62 : (.methodLink "DrawingVault" 144 ⟨"DrawingVault", "releaseRefusal", "(III)I"⟩ : Cond) ∈ aw := aw_in (tb_3 (List.mem_of_getElem? (i := 115) rfl)) rfl
theorem wd_63 : (.instanceMethod ⟨"DrawingVault", "releaseRefusal", "(III)I"⟩ : Cond) ∈ aw := aw_in (tb_3 (List.mem_of_getElem? (i := 117) rfl)) rfl
theorem wd_64 : (.selects "DrawingVault" ⟨"DrawingVault", "releaseRefusal", "(III)I"⟩ ⟨"DrawingVault", "releaseRefusal", "(III)I"⟩ : Cond) ∈ aw := aw_in (tb_s (q := (⟨"DrawingVault", "releaseRefusal", "(III)I"⟩, _)) (List.mem_append_right _ (List.mem_append_left _ (List.mem_of_getElem? (i := 8) rfl)))) rfl
theorem wd_65 : (.code ⟨"DrawingVault", "withdrawRefusal", "(III)I"⟩ prog_1_method_37_code 6 (Option.some .int) : Cond) ∈ aw := aw_in (tb_3 (List.mem_of_getElem? (i := 145) rfl)) rfl
theorem wd_66 : (.methodLink "DrawingVault" 147 ⟨"DrawingVault", "withdrawRefusal", "(III)I"⟩ : Cond) ∈ aw := aw_in (tb_3 (List.mem_of_getElem? (i := 142) rfl)) rfl
theorem wd_67 : (.instanceMethod ⟨"DrawingVault", "withdrawRefusal", "(III)I"⟩ : Cond) ∈ aw := aw_in (tb_3 (List.mem_of_getElem? (i := 144) rfl)) rfl
theorem wd_68 : (.selects "DrawingVault" ⟨"DrawingVault", "withdrawRefusal", "(III)I"⟩ ⟨"DrawingVault", "withdrawRefusal", "(III)I"⟩ : Cond) ∈ aw := aw_in (tb_s (q := (⟨"DrawingVault", "withdrawRefusal", "(III)I"⟩, _)) (List.mem_append_right _ (List.mem_append_left _ (List.mem_of_getElem? (i := 12) rfl)))) rfl
theorem wd_69 : (.fieldLink "DrawingVault$Pages" 9 "DrawingVault$Pages" "free" "I" : Cond) ∈ aw := aw_in (tb_1 (List.mem_of_getElem? (i := 76) rfl)) rfl
theorem wd_70 : (.fieldLink "DrawingVault$Pages" 25 "DrawingVault$Pages" "commands" "I" : Cond) ∈ aw := aw_in (tb_1 (List.mem_of_getElem? (i := 78) rfl)) rfl
theorem wd_71 : (.code ⟨"DrawingVault$Pages", "write", "(I)V"⟩ prog_6_method_5_code 2 (Option.none : Option Jvm.ClassFile.FieldType) : Cond) ∈ aw := aw_in (tb_2 (List.mem_of_getElem? (i := 92) rfl)) rfl
theorem wd_72 : (.methodLink "DrawingVault" 271 ⟨"DrawingVault$Pages", "write", "(I)V"⟩ : Cond) ∈ aw := aw_in (tb_2 (List.mem_of_getElem? (i := 89) rfl)) rfl
theorem wd_73 : (.instanceMethod ⟨"DrawingVault$Pages", "write", "(I)V"⟩ : Cond) ∈ aw := aw_in (tb_2 (List.mem_of_getElem? (i := 90) rfl)) rfl
theorem wd_74 : (.selects "DrawingVault$Pages" ⟨"DrawingVault$Pages", "write", "(I)V"⟩ ⟨"DrawingVault$Pages", "write", "(I)V"⟩ : Cond) ∈ aw := aw_in (tb_2 (List.mem_of_getElem? (i := 91) rfl)) rfl
theorem wd_75 : (.code ⟨"DrawingVault$Pages", "areLow", "()Z"⟩ prog_6_method_6_code 1 (Option.some .boolean) : Cond) ∈ aw := aw_in (tb_2 (List.mem_of_getElem? (i := 96) rfl)) rfl
theorem wd_76 : (.methodLink "DrawingVault" 274 ⟨"DrawingVault$Pages", "areLow", "()Z"⟩ : Cond) ∈ aw := aw_in (tb_2 (List.mem_of_getElem? (i := 93) rfl)) rfl
theorem wd_77 : (.instanceMethod ⟨"DrawingVault$Pages", "areLow", "()Z"⟩ : Cond) ∈ aw := aw_in (tb_2 (List.mem_of_getElem? (i := 94) rfl)) rfl
theorem wd_78 : (.selects "DrawingVault$Pages" ⟨"DrawingVault$Pages", "areLow", "()Z"⟩ ⟨"DrawingVault$Pages", "areLow", "()Z"⟩ : Cond) ∈ aw := aw_in (tb_2 (List.mem_of_getElem? (i := 95) rfl)) rfl
theorem wd_79 : (.code ⟨"DrawingVault", "finish", "(I)V"⟩ prog_1_method_28_code 3 (Option.none : Option Jvm.ClassFile.FieldType) : Cond) ∈ aw := aw_in (tb_2 (List.mem_of_getElem? (i := 88) rfl)) rfl
theorem wd_80 : (.methodLink "DrawingVault" 55 ⟨"DrawingVault", "finish", "(I)V"⟩ : Cond) ∈ aw := aw_in (tb_2 (List.mem_of_getElem? (i := 85) rfl)) rfl
theorem wd_81 : (.instanceMethod ⟨"DrawingVault", "finish", "(I)V"⟩ : Cond) ∈ aw := aw_in (tb_2 (List.mem_of_getElem? (i := 87) rfl)) rfl
theorem wd_82 : (.selects "DrawingVault" ⟨"DrawingVault", "finish", "(I)V"⟩ ⟨"DrawingVault", "finish", "(I)V"⟩ : Cond) ∈ aw := aw_in (tb_s (q := (⟨"DrawingVault", "finish", "(I)V"⟩, _)) (List.mem_append_left _ (List.mem_of_getElem? (i := 12) rfl))) rfl
theorem wd_83 : (.fieldLink "DrawingVault$Pages" 19 "DrawingVault$Pages" "beforeFailure" "I" : Cond) ∈ aw := aw_in (tb_1 (List.mem_of_getElem? (i := 85) rfl)) rfl
theorem wd_84 : (.code ⟨"DrawingVault$Pages", "failAhead", "(I)V"⟩ prog_6_method_2_code 2 (Option.none : Option Jvm.ClassFile.FieldType) : Cond) ∈ aw := aw_in (tb_1 (List.mem_of_getElem? (i := 174) rfl)) rfl
theorem wd_85 : (.methodLink "DrawingVault" 234 ⟨"DrawingVault$Pages", "failAhead", "(I)V"⟩ : Cond) ∈ aw := aw_in (tb_1 (List.mem_of_getElem? (i := 171) rfl)) rfl
theorem wd_86 : (.instanceMethod ⟨"DrawingVault$Pages", "failAhead", "(I)V"⟩ : Cond) ∈ aw := aw_in (tb_1 (List.mem_of_getElem? (i := 172) rfl)) rfl
theorem wd_87 : (.selects "DrawingVault$Pages" ⟨"DrawingVault$Pages", "failAhead", "(I)V"⟩ ⟨"DrawingVault$Pages", "failAhead", "(I)V"⟩ : Cond) ∈ aw := aw_in (tb_1 (List.mem_of_getElem? (i := 173) rfl)) rfl
theorem wd_88 : (.fieldLink "DrawingVault$Pages" 22 "DrawingVault$Pages" "failed" "Z" : Cond) ∈ aw := aw_in (tb_1 (List.mem_of_getElem? (i := 82) rfl)) rfl
theorem wd_89 : (.code ⟨"DrawingVault$Pages", "switchOn", "()V"⟩ prog_6_method_3_code 1 (Option.none : Option Jvm.ClassFile.FieldType) : Cond) ∈ aw := aw_in (tb_1 (List.mem_of_getElem? (i := 189) rfl)) rfl
theorem wd_90 : (.methodLink "DrawingVault" 244 ⟨"DrawingVault$Pages", "switchOn", "()V"⟩ : Cond) ∈ aw := aw_in (tb_1 (List.mem_of_getElem? (i := 186) rfl)) rfl
theorem wd_91 : (.instanceMethod ⟨"DrawingVault$Pages", "switchOn", "()V"⟩ : Cond) ∈ aw := aw_in (tb_1 (List.mem_of_getElem? (i := 187) rfl)) rfl
theorem wd_92 : (.selects "DrawingVault$Pages" ⟨"DrawingVault$Pages", "switchOn", "()V"⟩ ⟨"DrawingVault$Pages", "switchOn", "()V"⟩ : Cond) ∈ aw := aw_in (tb_1 (List.mem_of_getElem? (i := 188) rfl)) rfl
theorem wd_93 : (.code ⟨"DrawingVault", "drawingsOut", "()I"⟩ prog_1_method_57_code 3 (Option.some .int) : Cond) ∈ aw := aw_in (tb_1 (List.mem_of_getElem? (i := 193) rfl)) rfl
theorem wd_94 : (.methodLink "DrawingVault" 247 ⟨"DrawingVault", "drawingsOut", "()I"⟩ : Cond) ∈ aw := aw_in (tb_1 (List.mem_of_getElem? (i := 190) rfl)) rfl
theorem wd_95 : (.instanceMethod ⟨"DrawingVault", "drawingsOut", "()I"⟩ : Cond) ∈ aw := aw_in (tb_1 (List.mem_of_getElem? (i := 192) rfl)) rfl
theorem wd_96 : (.selects "DrawingVault" ⟨"DrawingVault", "drawingsOut", "()I"⟩ ⟨"DrawingVault", "drawingsOut", "()I"⟩ : Cond) ∈ aw := aw_in (tb_s (q := (⟨"DrawingVault", "drawingsOut", "()I"⟩, _)) (List.mem_append_left _ (List.mem_of_getElem? (i := 3) rfl))) rfl
theorem wd_97 : (.fieldLink "DrawingVault$ChunkSet" 19 "DrawingVault$ChunkSet" "size" "I" : Cond) ∈ aw := aw_in (tb_1 (List.mem_of_getElem? (i := 59) rfl)) rfl
theorem wd_98 : (.fieldLink "DrawingVault" 33 "DrawingVault" "chunks" "LDrawingVault$ChunkSet;" : Cond) ∈ aw := aw_in (tb_1 (List.mem_of_getElem? (i := 105) rfl)) rfl
theorem wd_99 : (.code ⟨"DrawingVault$ChunkSet", "clear", "()V"⟩ prog_3_method_2_code 1 (Option.none : Option Jvm.ClassFile.FieldType) : Cond) ∈ aw := aw_in (tb_1 (List.mem_of_getElem? (i := 209) rfl)) rfl
theorem wd_100 : (.methodLink "DrawingVault" 345 ⟨"DrawingVault$ChunkSet", "clear", "()V"⟩ : Cond) ∈ aw := aw_in (tb_1 (List.mem_of_getElem? (i := 206) rfl)) rfl
theorem wd_101 : (.instanceMethod ⟨"DrawingVault$ChunkSet", "clear", "()V"⟩ : Cond) ∈ aw := aw_in (tb_1 (List.mem_of_getElem? (i := 207) rfl)) rfl
theorem wd_102 : (.selects "DrawingVault$ChunkSet" ⟨"DrawingVault$ChunkSet", "clear", "()V"⟩ ⟨"DrawingVault$ChunkSet", "clear", "()V"⟩ : Cond) ∈ aw := aw_in (tb_1 (List.mem_of_getElem? (i := 208) rfl)) rfl
theorem wd_103 : (.initialized "DrawingVault$ChunkSet" : Cond) ∈ aw := aw_in (tb_1 (List.mem_of_getElem? (i := 4) rfl)) rfl
theorem wd_104 : (.fieldLink "DrawingVault" 349 "DrawingVault$ChunkSet" "size" "I" : Cond) ∈ aw := aw_in (tb_1 (List.mem_of_getElem? (i := 60) rfl)) rfl
theorem wd_105 : (.code ⟨"DrawingVault", "chunksOfRevisions", "()I"⟩ prog_1_method_59_code 3 (Option.some .int) : Cond) ∈ aw := aw_in (tb_1 (List.mem_of_getElem? (i := 205) rfl)) rfl
theorem wd_106 : (.methodLink "DrawingVault" 350 ⟨"DrawingVault", "chunksOfRevisions", "()I"⟩ : Cond) ∈ aw := aw_in (tb_1 (List.mem_of_getElem? (i := 202) rfl)) rfl
theorem wd_107 : (.instanceMethod ⟨"DrawingVault", "chunksOfRevisions", "()I"⟩ : Cond) ∈ aw := aw_in (tb_1 (List.mem_of_getElem? (i := 204) rfl)) rfl
theorem wd_108 : (.selects "DrawingVault" ⟨"DrawingVault", "chunksOfRevisions", "()I"⟩ ⟨"DrawingVault", "chunksOfRevisions", "()I"⟩ : Cond) ∈ aw := aw_in (tb_s (q := (⟨"DrawingVault", "chunksOfRevisions", "()I"⟩, _)) (List.mem_append_left _ (List.mem_of_getElem? (i := 5) rfl))) rfl
theorem wd_109 : (.fieldLink "DrawingVault" 71 "DrawingVault" "revisionCount" "I" : Cond) ∈ aw := aw_in (tb_1 (List.mem_of_getElem? (i := 102) rfl)) rfl
theorem wd_110 : (.code ⟨"DrawingVault", "chunksKept", "()I"⟩ prog_1_method_60_code 2 (Option.some .int) : Cond) ∈ aw := aw_in (tb_1 (List.mem_of_getElem? (i := 201) rfl)) rfl
theorem wd_111 : (.methodLink "DrawingVault" 250 ⟨"DrawingVault", "chunksKept", "()I"⟩ : Cond) ∈ aw := aw_in (tb_1 (List.mem_of_getElem? (i := 198) rfl)) rfl
theorem wd_112 : (.instanceMethod ⟨"DrawingVault", "chunksKept", "()I"⟩ : Cond) ∈ aw := aw_in (tb_1 (List.mem_of_getElem? (i := 200) rfl)) rfl
theorem wd_113 : (.selects "DrawingVault" ⟨"DrawingVault", "chunksKept", "()I"⟩ ⟨"DrawingVault", "chunksKept", "()I"⟩ : Cond) ∈ aw := aw_in (tb_s (q := (⟨"DrawingVault", "chunksKept", "()I"⟩, _)) (List.mem_append_left _ (List.mem_of_getElem? (i := 4) rfl))) rfl
theorem wd_114 : (.fieldLink "DrawingVault" 256 "DrawingVault$Pages" "commands" "I" : Cond) ∈ aw := aw_in (tb_1 (List.mem_of_getElem? (i := 79) rfl)) rfl
theorem wd_115 : (.fieldLink "DrawingVault" 259 "DrawingVault$Pages" "copiedForward" "I" : Cond) ∈ aw := aw_in (tb_1 (List.mem_of_getElem? (i := 81) rfl)) rfl
theorem wd_116 : (.code ⟨"DrawingVault", "baselinesMade", "()I"⟩ prog_1_method_58_code 3 (Option.some .int) : Cond) ∈ aw := aw_in (tb_1 (List.mem_of_getElem? (i := 235) rfl)) rfl
theorem wd_117 : (.methodLink "DrawingVault" 262 ⟨"DrawingVault", "baselinesMade", "()I"⟩ : Cond) ∈ aw := aw_in (tb_1 (List.mem_of_getElem? (i := 232) rfl)) rfl
theorem wd_118 : (.instanceMethod ⟨"DrawingVault", "baselinesMade", "()I"⟩ : Cond) ∈ aw := aw_in (tb_1 (List.mem_of_getElem? (i := 234) rfl)) rfl
theorem wd_119 : (.selects "DrawingVault" ⟨"DrawingVault", "baselinesMade", "()I"⟩ ⟨"DrawingVault", "baselinesMade", "()I"⟩ : Cond) ∈ aw := aw_in (tb_s (q := (⟨"DrawingVault", "baselinesMade", "()I"⟩, _)) (List.mem_append_left _ (List.mem_of_getElem? (i := 7) rfl))) rfl
theorem wd_120 : (.laysFinal "DrawingVault" "DrawingVault" "rightsOf" "[I" : Cond) ∈ aw := aw_in (tb_1 (List.mem_of_getElem? (i := 108) rfl)) rfl
theorem wd_121 : (.laysFinal "DrawingVault" "DrawingVault" "drawings" "[LDrawingVault$Drawing;" : Cond) ∈ aw := aw_in (tb_1 (List.mem_of_getElem? (i := 110) rfl)) rfl
theorem wd_122 : (.lays "DrawingVault" "DrawingVault" "drawingCount" "I" : Cond) ∈ aw := aw_in (tb_1 (List.mem_of_getElem? (i := 112) rfl)) rfl
theorem wd_123 : (.lays "DrawingVault" "DrawingVault" "revisionCount" "I" : Cond) ∈ aw := aw_in (tb_1 (List.mem_of_getElem? (i := 114) rfl)) rfl
theorem wd_124 : (.laysFinal "DrawingVault" "DrawingVault" "baselines" "[LDrawingVault$Baseline;" : Cond) ∈ aw := aw_in (tb_1 (List.mem_of_getElem? (i := 116) rfl)) rfl
theorem wd_125 : (.lays "DrawingVault" "DrawingVault" "draft" "LDrawingVault$Baseline;" : Cond) ∈ aw := aw_in (tb_1 (List.mem_of_getElem? (i := 118) rfl)) rfl
theorem wd_126 : (.laysFinal "DrawingVault" "DrawingVault" "chunks" "LDrawingVault$ChunkSet;" : Cond) ∈ aw := aw_in (tb_1 (List.mem_of_getElem? (i := 120) rfl)) rfl
theorem wd_127 : (.laysFinal "DrawingVault" "DrawingVault" "pages" "LDrawingVault$Pages;" : Cond) ∈ aw := aw_in (tb_1 (List.mem_of_getElem? (i := 122) rfl)) rfl
theorem wd_128 : (.lays "DrawingVault" "DrawingVault" "reason" "I" : Cond) ∈ aw := aw_in (tb_1 (List.mem_of_getElem? (i := 124) rfl)) rfl
theorem wd_129 : (.laysFinal "DrawingVault$Baseline" "DrawingVault$Baseline" "revisionOf" "[I" : Cond) ∈ aw := aw_in (tb_1 (List.mem_of_getElem? (i := 43) rfl)) rfl
theorem wd_130 : (.laysFinal "DrawingVault$Baseline" "DrawingVault$Baseline" "order" "[I" : Cond) ∈ aw := aw_in (tb_1 (List.mem_of_getElem? (i := 45) rfl)) rfl
theorem wd_131 : (.lays "DrawingVault$Baseline" "DrawingVault$Baseline" "size" "I" : Cond) ∈ aw := aw_in (tb_1 (List.mem_of_getElem? (i := 47) rfl)) rfl
theorem wd_132 : (.laysFinal "DrawingVault$ChunkSet" "DrawingVault$ChunkSet" "pieces" "[J" : Cond) ∈ aw := aw_in (tb_1 (List.mem_of_getElem? (i := 61) rfl)) rfl
theorem wd_133 : (.laysFinal "DrawingVault$ChunkSet" "DrawingVault$ChunkSet" "lengths" "[B" : Cond) ∈ aw := aw_in (tb_1 (List.mem_of_getElem? (i := 63) rfl)) rfl
theorem wd_134 : (.lays "DrawingVault$ChunkSet" "DrawingVault$ChunkSet" "size" "I" : Cond) ∈ aw := aw_in (tb_1 (List.mem_of_getElem? (i := 65) rfl)) rfl
theorem wd_135 : (.lays "DrawingVault$Pages" "DrawingVault$Pages" "free" "I" : Cond) ∈ aw := aw_in (tb_1 (List.mem_of_getElem? (i := 86) rfl)) rfl
theorem wd_136 : (.lays "DrawingVault$Pages" "DrawingVault$Pages" "commands" "I" : Cond) ∈ aw := aw_in (tb_1 (List.mem_of_getElem? (i := 88) rfl)) rfl
theorem wd_137 : (.lays "DrawingVault$Pages" "DrawingVault$Pages" "copiedForward" "I" : Cond) ∈ aw := aw_in (tb_1 (List.mem_of_getElem? (i := 90) rfl)) rfl
theorem wd_138 : (.lays "DrawingVault$Pages" "DrawingVault$Pages" "failed" "Z" : Cond) ∈ aw := aw_in (tb_1 (List.mem_of_getElem? (i := 92) rfl)) rfl
theorem wd_139 : (.lays "DrawingVault$Pages" "DrawingVault$Pages" "failureAhead" "Z" : Cond) ∈ aw := aw_in (tb_1 (List.mem_of_getElem? (i := 94) rfl)) rfl
theorem wd_140 : (.lays "DrawingVault$Pages" "DrawingVault$Pages" "beforeFailure" "I" : Cond) ∈ aw := aw_in (tb_1 (List.mem_of_getElem? (i := 96) rfl)) rfl
theorem wd_141 : (.lays "DrawingVaultModel" "DrawingVaultModel" "thrown" "I" : Cond) ∈ aw := aw_in (tb_4 (List.mem_of_getElem? (i := 41) rfl)) rfl
theorem wd_142 : (.lays "DrawingVaultModel" "DrawingVaultModel" "reason" "I" : Cond) ∈ aw := aw_in (tb_4 (List.mem_of_getElem? (i := 43) rfl)) rfl
theorem wd_143 : (.laysFinal "DrawingVaultModel" "DrawingVaultModel" "now" "[I" : Cond) ∈ aw := aw_in (tb_4 (List.mem_of_getElem? (i := 45) rfl)) rfl
theorem wd_144 : (.laysFinal "DrawingVaultModel" "DrawingVaultModel" "kept" "[I" : Cond) ∈ aw := aw_in (tb_4 (List.mem_of_getElem? (i := 47) rfl)) rfl
theorem wd_145 : (.lays "DrawingVaultModel" "DrawingVaultModel" "failed" "Z" : Cond) ∈ aw := aw_in (tb_4 (List.mem_of_getElem? (i := 49) rfl)) rfl
theorem wd_146 : (.lays "DrawingVaultModel" "DrawingVaultModel" "powerLeft" "I" : Cond) ∈ aw := aw_in (tb_4 (List.mem_of_getElem? (i := 51) rfl)) rfl
theorem wd_147 : (.laysFinal "DrawingVaultModel" "DrawingVaultModel" "marked" "[Z" : Cond) ∈ aw := aw_in (tb_4 (List.mem_of_getElem? (i := 53) rfl)) rfl
theorem wd_148 : (.laysFinal "DrawingVaultModel" "DrawingVaultModel" "come" "[I" : Cond) ∈ aw := aw_in (tb_4 (List.mem_of_getElem? (i := 55) rfl)) rfl
theorem wd_149 : (.lays "DrawingVaultModel" "DrawingVaultModel" "parts2" "Z" : Cond) ∈ aw := aw_in (tb_4 (List.mem_of_getElem? (i := 57) rfl)) rfl
theorem wd_150 : (.lays "DrawingVaultModel" "DrawingVaultModel" "open" "Z" : Cond) ∈ aw := aw_in (tb_4 (List.mem_of_getElem? (i := 59) rfl)) rfl
theorem wd_151 : (.laysFinal "DrawingVaultModel" "DrawingVaultModel" "seen" "[Z" : Cond) ∈ aw := aw_in (tb_4 (List.mem_of_getElem? (i := 61) rfl)) rfl
theorem inV : ∀ w ∈ u_ws RV TV 9, w ∈ aw := by
  intro w hw
  obtain ⟨k, hk, rfl⟩ := List.mem_map.mp hw
  rw [List.mem_range] at hk
  rcases (show k = 0 ∨ k = 1 ∨ k = 2 ∨ k = 3 ∨ k = 4 ∨ k = 5 ∨ k = 6 ∨ k = 7 ∨ k = 8 by omega) with rfl | rfl | rfl | rfl | rfl | rfl | rfl | rfl | rfl
  · exact wd_120
  · exact wd_121
  · exact wd_122
  · exact wd_123
  · exact wd_124
  · exact wd_125
  · exact wd_126
  · exact wd_127
  · exact wd_128
theorem inB : ∀ w ∈ u_ws RB TB 3, w ∈ aw := by
  intro w hw
  obtain ⟨k, hk, rfl⟩ := List.mem_map.mp hw
  rw [List.mem_range] at hk
  rcases (show k = 0 ∨ k = 1 ∨ k = 2 by omega) with rfl | rfl | rfl
  · exact wd_129
  · exact wd_130
  · exact wd_131
theorem inK : ∀ w ∈ u_ws RK TK 3, w ∈ aw := by
  intro w hw
  obtain ⟨k, hk, rfl⟩ := List.mem_map.mp hw
  rw [List.mem_range] at hk
  rcases (show k = 0 ∨ k = 1 ∨ k = 2 by omega) with rfl | rfl | rfl
  · exact wd_132
  · exact wd_133
  · exact wd_134
theorem inP : ∀ w ∈ u_ws RP TP 6, w ∈ aw := by
  intro w hw
  obtain ⟨k, hk, rfl⟩ := List.mem_map.mp hw
  rw [List.mem_range] at hk
  rcases (show k = 0 ∨ k = 1 ∨ k = 2 ∨ k = 3 ∨ k = 4 ∨ k = 5 by omega) with rfl | rfl | rfl | rfl | rfl | rfl
  · exact wd_135
  · exact wd_136
  · exact wd_137
  · exact wd_138
  · exact wd_139
  · exact wd_140
theorem inM : ∀ w ∈ u_ws RM TM 11, w ∈ aw := by
  intro w hw
  obtain ⟨k, hk, rfl⟩ := List.mem_map.mp hw
  rw [List.mem_range] at hk
  rcases (show k = 0 ∨ k = 1 ∨ k = 2 ∨ k = 3 ∨ k = 4 ∨ k = 5 ∨ k = 6 ∨ k = 7 ∨ k = 8 ∨ k = 9 ∨ k = 10 by omega) with rfl | rfl | rfl | rfl | rfl | rfl | rfl | rfl | rfl | rfl | rfl
  · exact wd_141
  · exact wd_142
  · exact wd_143
  · exact wd_144
  · exact wd_145
  · exact wd_146
  · exact wd_147
  · exact wd_148
  · exact wd_149
  · exact wd_150
  · exact wd_151
