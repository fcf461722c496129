abbrev RV : String := "DrawingVault"
abbrev RB : String := "DrawingVault$Baseline"
abbrev RK : String := "DrawingVault$ChunkSet"
abbrev RC : String := "DrawingVault$Content"
abbrev RD : String := "DrawingVault$Drawing"
abbrev RP : String := "DrawingVault$Pages"
abbrev RS : String := "DrawingVault$Revision"
abbrev RM : String := "DrawingVaultModel"
abbrev RL : String := "DrawingVaultLaw"
abbrev RA : String := "java/util/Arrays"
def TV : u_T := fun k => match k with
  | 0 => ("DrawingVault", "rightsOf", "[I", true)
  | 1 => ("DrawingVault", "drawings", "[LDrawingVault$Drawing;", true)
  | 2 => ("DrawingVault", "drawingCount", "I", false)
  | 3 => ("DrawingVault", "revisionCount", "I", false)
  | 4 => ("DrawingVault", "baselines", "[LDrawingVault$Baseline;", true)
  | 5 => ("DrawingVault", "draft", "LDrawingVault$Baseline;", false)
  | 6 => ("DrawingVault", "chunks", "LDrawingVault$ChunkSet;", true)
  | 7 => ("DrawingVault", "pages", "LDrawingVault$Pages;", true)
  | _ => ("DrawingVault", "reason", "I", false)
def tyV : Nat → FieldType := fun k => match k with
  | 0 => (.array .int)
  | 1 => (.array (.object "DrawingVault$Drawing"))
  | 2 => .int
  | 3 => .int
  | 4 => (.array (.object "DrawingVault$Baseline"))
  | 5 => (.object "DrawingVault$Baseline")
  | 6 => (.object "DrawingVault$ChunkSet")
  | 7 => (.object "DrawingVault$Pages")
  | _ => .int
theorem nmV : ∀ a, a < 9 → ∀ b, b < 9 → a ≠ b → (TV a).2.1 ≠ (TV b).2.1 := by decide +kernel
theorem tyV_ok : ∀ k, k < 9 → parseFieldDescriptor (TV k).2.2.1 = some (tyV k) := by decide +kernel
def TB : u_T := fun k => match k with
  | 0 => ("DrawingVault$Baseline", "revisionOf", "[I", true)
  | 1 => ("DrawingVault$Baseline", "order", "[I", true)
  | _ => ("DrawingVault$Baseline", "size", "I", false)
def tyB : Nat → FieldType := fun k => match k with
  | 0 => (.array .int)
  | 1 => (.array .int)
  | _ => .int
theorem nmB : ∀ a, a < 3 → ∀ b, b < 3 → a ≠ b → (TB a).2.1 ≠ (TB b).2.1 := by decide +kernel
theorem tyB_ok : ∀ k, k < 3 → parseFieldDescriptor (TB k).2.2.1 = some (tyB k) := by decide +kernel
def TK : u_T := fun k => match k with
  | 0 => ("DrawingVault$ChunkSet", "pieces", "[J", true)
  | 1 => ("DrawingVault$ChunkSet", "lengths", "[B", true)
  | _ => ("DrawingVault$ChunkSet", "size", "I", false)
def tyK : Nat → FieldType := fun k => match k with
  | 0 => (.array .long)
  | 1 => (.array .byte)
  | _ => .int
theorem nmK : ∀ a, a < 3 → ∀ b, b < 3 → a ≠ b → (TK a).2.1 ≠ (TK b).2.1 := by decide +kernel
theorem tyK_ok : ∀ k, k < 3 → parseFieldDescriptor (TK k).2.2.1 = some (tyK k) := by decide +kernel
def TP : u_T := fun k => match k with
  | 0 => ("DrawingVault$Pages", "free", "I", false)
  | 1 => ("DrawingVault$Pages", "commands", "I", false)
  | 2 => ("DrawingVault$Pages", "copiedForward", "I", false)
  | 3 => ("DrawingVault$Pages", "failed", "Z", false)
  | 4 => ("DrawingVault$Pages", "failureAhead", "Z", false)
  | _ => ("DrawingVault$Pages", "beforeFailure", "I", false)
def tyP : Nat → FieldType := fun k => match k with
  | 0 => .int
  | 1 => .int
  | 2 => .int
  | 3 => .boolean
  | 4 => .boolean
  | _ => .int
theorem nmP : ∀ a, a < 6 → ∀ b, b < 6 → a ≠ b → (TP a).2.1 ≠ (TP b).2.1 := by decide +kernel
theorem tyP_ok : ∀ k, k < 6 → parseFieldDescriptor (TP k).2.2.1 = some (tyP k) := by decide +kernel
def TM : u_T := fun k => match k with
  | 0 => ("DrawingVaultModel", "thrown", "I", false)
  | 1 => ("DrawingVaultModel", "reason", "I", false)
  | 2 => ("DrawingVaultModel", "now", "[I", true)
  | 3 => ("DrawingVaultModel", "kept", "[I", true)
  | 4 => ("DrawingVaultModel", "failed", "Z", false)
  | 5 => ("DrawingVaultModel", "powerLeft", "I", false)
  | 6 => ("DrawingVaultModel", "marked", "[Z", true)
  | 7 => ("DrawingVaultModel", "come", "[I", true)
  | 8 => ("DrawingVaultModel", "parts2", "Z", false)
  | 9 => ("DrawingVaultModel", "open", "Z", false)
  | _ => ("DrawingVaultModel", "seen", "[Z", true)
def tyM : Nat → FieldType := fun k => match k with
  | 0 => .int
  | 1 => .int
  | 2 => (.array .int)
  | 3 => (.array .int)
  | 4 => .boolean
  | 5 => .int
  | 6 => (.array .boolean)
  | 7 => (.array .int)
  | 8 => .boolean
  | 9 => .boolean
  | _ => (.array .boolean)
theorem nmM : ∀ a, a < 11 → ∀ b, b < 11 → a ≠ b → (TM a).2.1 ≠ (TM b).2.1 := by decide +kernel
theorem tyM_ok : ∀ k, k < 11 → parseFieldDescriptor (TM k).2.2.1 = some (tyM k) := by decide +kernel
abbrev kCl : List vw_C := [(RV, TV, 9), (RB, TB, 3), (RK, TK, 3), (RP, TP, 6), (RM, TM, 11)]
abbrev cV_isPerson : ByteArray := prog_1_method_42_code
abbrev yV_isPerson : MethodName := ⟨"DrawingVault", "isPerson", "(I)Z"⟩
theorem dV_isPerson_0 : decode cV_isPerson 0 = .ok (.iload_n 0, 1) := by decide +kernel
theorem dV_isPerson_1 : decode cV_isPerson 1 = .ok (.ifCond .lt 13, 3) := by decide +kernel
theorem dV_isPerson_4 : decode cV_isPerson 4 = .ok (.iload_n 0, 1) := by decide +kernel
theorem dV_isPerson_5 : decode cV_isPerson 5 = .ok (.bipush 16, 2) := by decide +kernel
theorem dV_isPerson_7 : decode cV_isPerson 7 = .ok (.if_icmp .ge 7, 3) := by decide +kernel
theorem dV_isPerson_10 : decode cV_isPerson 10 = .ok (.iconst 1, 1) := by decide +kernel
theorem dV_isPerson_11 : decode cV_isPerson 11 = .ok (.goto 4, 3) := by decide +kernel
theorem dV_isPerson_14 : decode cV_isPerson 14 = .ok (.iconst 0, 1) := by decide +kernel
theorem dV_isPerson_15 : decode cV_isPerson 15 = .ok (.ireturn, 1) := by decide +kernel
abbrev cV_hasRight : ByteArray := prog_1_method_43_code
abbrev yV_hasRight : MethodName := ⟨"DrawingVault", "hasRight", "(II)Z"⟩
theorem dV_hasRight_0 : decode cV_hasRight 0 = .ok (.iload_n 1, 1) := by decide +kernel
theorem dV_hasRight_1 : decode cV_hasRight 1 = .ok (.invokestatic 47, 3) := by decide +kernel
theorem dV_hasRight_4 : decode cV_hasRight 4 = .ok (.ifCond .eq 18, 3) := by decide +kernel
theorem dV_hasRight_7 : decode cV_hasRight 7 = .ok (.aload_n 0, 1) := by decide +kernel
theorem dV_hasRight_8 : decode cV_hasRight 8 = .ok (.getfield 9, 3) := by decide +kernel
theorem dV_hasRight_11 : decode cV_hasRight 11 = .ok (.iload_n 1, 1) := by decide +kernel
theorem dV_hasRight_12 : decode cV_hasRight 12 = .ok (.iaload, 1) := by decide +kernel
theorem dV_hasRight_13 : decode cV_hasRight 13 = .ok (.iload_n 2, 1) := by decide +kernel
theorem dV_hasRight_14 : decode cV_hasRight 14 = .ok (.iand, 1) := by decide +kernel
theorem dV_hasRight_15 : decode cV_hasRight 15 = .ok (.ifCond .eq 7, 3) := by decide +kernel
theorem dV_hasRight_22 : decode cV_hasRight 22 = .ok (.iconst 0, 1) := by decide +kernel
theorem dV_hasRight_23 : decode cV_hasRight 23 = .ok (.ireturn, 1) := by decide +kernel
abbrev cV_needPower : ByteArray := prog_1_method_25_code
abbrev yV_needPower : MethodName := ⟨"DrawingVault", "needPower", "()V"⟩
theorem dV_needPower_0 : decode cV_needPower 0 = .ok (.aload_n 0, 1) := by decide +kernel
theorem dV_needPower_1 : decode cV_needPower 1 = .ok (.getfield 40, 3) := by decide +kernel
theorem dV_needPower_4 : decode cV_needPower 4 = .ok (.getfield 230, 3) := by decide +kernel
theorem dV_needPower_7 : decode cV_needPower 7 = .ok (.ifCond .eq 11, 3) := by decide +kernel
theorem dV_needPower_18 : decode cV_needPower 18 = .ok (.return_, 1) := by decide +kernel
abbrev cV_drawingAt : ByteArray := prog_1_method_44_code
abbrev yV_drawingAt : MethodName := ⟨"DrawingVault", "drawingAt", "(I)LDrawingVault$Drawing;"⟩
theorem dV_drawingAt_0 : decode cV_drawingAt 0 = .ok (.iload_n 1, 1) := by decide +kernel
theorem dV_drawingAt_1 : decode cV_drawingAt 1 = .ok (.ifCond .lt 20, 3) := by decide +kernel
theorem dV_drawingAt_4 : decode cV_drawingAt 4 = .ok (.iload_n 1, 1) := by decide +kernel
theorem dV_drawingAt_5 : decode cV_drawingAt 5 = .ok (.aload_n 0, 1) := by decide +kernel
theorem dV_drawingAt_6 : decode cV_drawingAt 6 = .ok (.getfield 67, 3) := by decide +kernel
theorem dV_drawingAt_9 : decode cV_drawingAt 9 = .ok (.if_icmp .ge 12, 3) := by decide +kernel
theorem dV_drawingAt_21 : decode cV_drawingAt 21 = .ok (.aconst_null, 1) := by decide +kernel
theorem dV_drawingAt_22 : decode cV_drawingAt 22 = .ok (.areturn, 1) := by decide +kernel
abbrev cV_revisionAt : ByteArray := prog_1_method_45_code
abbrev yV_revisionAt : MethodName := ⟨"DrawingVault", "revisionAt", "(II)LDrawingVault$Revision;"⟩
theorem dV_revisionAt_0 : decode cV_revisionAt 0 = .ok (.aload_n 0, 1) := by decide +kernel
theorem dV_revisionAt_1 : decode cV_revisionAt 1 = .ok (.iload_n 1, 1) := by decide +kernel
theorem dV_revisionAt_2 : decode cV_revisionAt 2 = .ok (.invokevirtual 74, 3) := by decide +kernel
theorem dV_revisionAt_5 : decode cV_revisionAt 5 = .ok (.astore_n 3, 1) := by decide +kernel
theorem dV_revisionAt_6 : decode cV_revisionAt 6 = .ok (.aload_n 3, 1) := by decide +kernel
theorem dV_revisionAt_7 : decode cV_revisionAt 7 = .ok (.ifnull 20, 3) := by decide +kernel
theorem dV_revisionAt_27 : decode cV_revisionAt 27 = .ok (.aconst_null, 1) := by decide +kernel
theorem dV_revisionAt_28 : decode cV_revisionAt 28 = .ok (.areturn, 1) := by decide +kernel
abbrev cV_baselineAt : ByteArray := prog_1_method_46_code
abbrev yV_baselineAt : MethodName := ⟨"DrawingVault", "baselineAt", "(I)LDrawingVault$Baseline;"⟩
theorem dV_baselineAt_0 : decode cV_baselineAt 0 = .ok (.iload_n 1, 1) := by decide +kernel
theorem dV_baselineAt_1 : decode cV_baselineAt 1 = .ok (.ifCond .lt 18, 3) := by decide +kernel
theorem dV_baselineAt_4 : decode cV_baselineAt 4 = .ok (.iload_n 1, 1) := by decide +kernel
theorem dV_baselineAt_5 : decode cV_baselineAt 5 = .ok (.bipush 10, 2) := by decide +kernel
theorem dV_baselineAt_7 : decode cV_baselineAt 7 = .ok (.if_icmp .ge 12, 3) := by decide +kernel
theorem dV_baselineAt_10 : decode cV_baselineAt 10 = .ok (.aload_n 0, 1) := by decide +kernel
theorem dV_baselineAt_11 : decode cV_baselineAt 11 = .ok (.getfield 21, 3) := by decide +kernel
theorem dV_baselineAt_14 : decode cV_baselineAt 14 = .ok (.iload_n 1, 1) := by decide +kernel
theorem dV_baselineAt_15 : decode cV_baselineAt 15 = .ok (.aaload, 1) := by decide +kernel
theorem dV_baselineAt_16 : decode cV_baselineAt 16 = .ok (.goto 4, 3) := by decide +kernel
theorem dV_baselineAt_19 : decode cV_baselineAt 19 = .ok (.aconst_null, 1) := by decide +kernel
theorem dV_baselineAt_20 : decode cV_baselineAt 20 = .ok (.areturn, 1) := by decide +kernel
abbrev cV_outRefusal : ByteArray := prog_1_method_31_code
abbrev yV_outRefusal : MethodName := ⟨"DrawingVault", "outRefusal", "(LDrawingVault$Drawing;I)I"⟩
theorem dV_outRefusal_0 : decode cV_outRefusal 0 = .ok (.aload_n 0, 1) := by decide +kernel
theorem dV_outRefusal_1 : decode cV_outRefusal 1 = .ok (.iload_n 2, 1) := by decide +kernel
theorem dV_outRefusal_2 : decode cV_outRefusal 2 = .ok (.bipush 7, 2) := by decide +kernel
theorem dV_outRefusal_4 : decode cV_outRefusal 4 = .ok (.invokevirtual 284, 3) := by decide +kernel
theorem dV_outRefusal_7 : decode cV_outRefusal 7 = .ok (.ifCond .ne 5, 3) := by decide +kernel
theorem dV_outRefusal_10 : decode cV_outRefusal 10 = .ok (.iconst 1, 1) := by decide +kernel
theorem dV_outRefusal_11 : decode cV_outRefusal 11 = .ok (.ireturn, 1) := by decide +kernel
abbrev cV_copyRefusal : ByteArray := prog_1_method_32_code
abbrev yV_copyRefusal : MethodName := ⟨"DrawingVault", "copyRefusal", "(LDrawingVault$Drawing;I)I"⟩
theorem dV_copyRefusal_0 : decode cV_copyRefusal 0 = .ok (.aload_n 0, 1) := by decide +kernel
theorem dV_copyRefusal_1 : decode cV_copyRefusal 1 = .ok (.iload_n 2, 1) := by decide +kernel
theorem dV_copyRefusal_2 : decode cV_copyRefusal 2 = .ok (.bipush 7, 2) := by decide +kernel
theorem dV_copyRefusal_4 : decode cV_copyRefusal 4 = .ok (.invokevirtual 284, 3) := by decide +kernel
theorem dV_copyRefusal_7 : decode cV_copyRefusal 7 = .ok (.ifCond .ne 5, 3) := by decide +kernel
theorem dV_copyRefusal_10 : decode cV_copyRefusal 10 = .ok (.iconst 1, 1) := by decide +kernel
theorem dV_copyRefusal_11 : decode cV_copyRefusal 11 = .ok (.ireturn, 1) := by decide +kernel
abbrev cV_drawingRefusal : ByteArray := prog_1_method_30_code
abbrev yV_drawingRefusal : MethodName := ⟨"DrawingVault", "drawingRefusal", "(I)I"⟩
theorem dV_drawingRefusal_0 : decode cV_drawingRefusal 0 = .ok (.aload_n 0, 1) := by decide +kernel
theorem dV_drawingRefusal_1 : decode cV_drawingRefusal 1 = .ok (.iload_n 1, 1) := by decide +kernel
theorem dV_drawingRefusal_2 : decode cV_drawingRefusal 2 = .ok (.iconst 1, 1) := by decide +kernel
theorem dV_drawingRefusal_3 : decode cV_drawingRefusal 3 = .ok (.invokevirtual 284, 3) := by decide +kernel
theorem dV_drawingRefusal_6 : decode cV_drawingRefusal 6 = .ok (.ifCond .ne 5, 3) := by decide +kernel
theorem dV_drawingRefusal_9 : decode cV_drawingRefusal 9 = .ok (.iconst 1, 1) := by decide +kernel
theorem dV_drawingRefusal_10 : decode cV_drawingRefusal 10 = .ok (.ireturn, 1) := by decide +kernel
abbrev cV_checkRefusal : ByteArray := prog_1_method_35_code
abbrev yV_checkRefusal : MethodName := ⟨"DrawingVault", "checkRefusal", "(III)I"⟩
theorem dV_checkRefusal_0 : decode cV_checkRefusal 0 = .ok (.aload_n 0, 1) := by decide +kernel
theorem dV_checkRefusal_1 : decode cV_checkRefusal 1 = .ok (.iload_n 1, 1) := by decide +kernel
theorem dV_checkRefusal_2 : decode cV_checkRefusal 2 = .ok (.invokevirtual 74, 3) := by decide +kernel
theorem dV_checkRefusal_5 : decode cV_checkRefusal 5 = .ok (.astore 4, 2) := by decide +kernel
theorem dV_checkRefusal_7 : decode cV_checkRefusal 7 = .ok (.aload_n 0, 1) := by decide +kernel
theorem dV_checkRefusal_8 : decode cV_checkRefusal 8 = .ok (.iload_n 1, 1) := by decide +kernel
theorem dV_checkRefusal_9 : decode cV_checkRefusal 9 = .ok (.iload_n 2, 1) := by decide +kernel
theorem dV_checkRefusal_10 : decode cV_checkRefusal 10 = .ok (.invokevirtual 163, 3) := by decide +kernel
theorem dV_checkRefusal_13 : decode cV_checkRefusal 13 = .ok (.astore 5, 2) := by decide +kernel
theorem dV_checkRefusal_15 : decode cV_checkRefusal 15 = .ok (.aload_n 0, 1) := by decide +kernel
theorem dV_checkRefusal_16 : decode cV_checkRefusal 16 = .ok (.iload_n 3, 1) := by decide +kernel
theorem dV_checkRefusal_17 : decode cV_checkRefusal 17 = .ok (.iconst 2, 1) := by decide +kernel
theorem dV_checkRefusal_18 : decode cV_checkRefusal 18 = .ok (.invokevirtual 284, 3) := by decide +kernel
theorem dV_checkRefusal_21 : decode cV_checkRefusal 21 = .ok (.ifCond .ne 5, 3) := by decide +kernel
theorem dV_checkRefusal_24 : decode cV_checkRefusal 24 = .ok (.iconst 1, 1) := by decide +kernel
theorem dV_checkRefusal_25 : decode cV_checkRefusal 25 = .ok (.ireturn, 1) := by decide +kernel
abbrev cV_releaseRefusal : ByteArray := prog_1_method_36_code
abbrev yV_releaseRefusal : MethodName := ⟨"DrawingVault", "releaseRefusal", "(III)I"⟩
theorem dV_releaseRefusal_0 : decode cV_releaseRefusal 0 = .ok (.aload_n 0, 1) := by decide +kernel
theorem dV_releaseRefusal_1 : decode cV_releaseRefusal 1 = .ok (.iload_n 1, 1) := by decide +kernel
theorem dV_releaseRefusal_2 : decode cV_releaseRefusal 2 = .ok (.iload_n 2, 1) := by decide +kernel
theorem dV_releaseRefusal_3 : decode cV_releaseRefusal 3 = .ok (.invokevirtual 163, 3) := by decide +kernel
theorem dV_releaseRefusal_6 : decode cV_releaseRefusal 6 = .ok (.astore 4, 2) := by decide +kernel
theorem dV_releaseRefusal_8 : decode cV_releaseRefusal 8 = .ok (.aload_n 0, 1) := by decide +kernel
theorem dV_releaseRefusal_9 : decode cV_releaseRefusal 9 = .ok (.iload_n 3, 1) := by decide +kernel
theorem dV_releaseRefusal_10 : decode cV_releaseRefusal 10 = .ok (.iconst 4, 1) := by decide +kernel
theorem dV_releaseRefusal_11 : decode cV_releaseRefusal 11 = .ok (.invokevirtual 284, 3) := by decide +kernel
theorem dV_releaseRefusal_14 : decode cV_releaseRefusal 14 = .ok (.ifCond .ne 5, 3) := by decide +kernel
theorem dV_releaseRefusal_17 : decode cV_releaseRefusal 17 = .ok (.iconst 1, 1) := by decide +kernel
theorem dV_releaseRefusal_18 : decode cV_releaseRefusal 18 = .ok (.ireturn, 1) := by decide +kernel
abbrev cV_withdrawRefusal : ByteArray := prog_1_method_37_code
abbrev yV_withdrawRefusal : MethodName := ⟨"DrawingVault", "withdrawRefusal", "(III)I"⟩
theorem dV_withdrawRefusal_0 : decode cV_withdrawRefusal 0 = .ok (.aload_n 0, 1) := by decide +kernel
theorem dV_withdrawRefusal_1 : decode cV_withdrawRefusal 1 = .ok (.iload_n 1, 1) := by decide +kernel
theorem dV_withdrawRefusal_2 : decode cV_withdrawRefusal 2 = .ok (.iload_n 2, 1) := by decide +kernel
theorem dV_withdrawRefusal_3 : decode cV_withdrawRefusal 3 = .ok (.invokevirtual 163, 3) := by decide +kernel
theorem dV_withdrawRefusal_6 : decode cV_withdrawRefusal 6 = .ok (.astore 4, 2) := by decide +kernel
theorem dV_withdrawRefusal_8 : decode cV_withdrawRefusal 8 = .ok (.aload_n 0, 1) := by decide +kernel
theorem dV_withdrawRefusal_9 : decode cV_withdrawRefusal 9 = .ok (.iload_n 3, 1) := by decide +kernel
theorem dV_withdrawRefusal_10 : decode cV_withdrawRefusal 10 = .ok (.iconst 4, 1) := by decide +kernel
theorem dV_withdrawRefusal_11 : decode cV_withdrawRefusal 11 = .ok (.invokevirtual 284, 3) := by decide +kernel
theorem dV_withdrawRefusal_14 : decode cV_withdrawRefusal 14 = .ok (.ifCond .ne 5, 3) := by decide +kernel
theorem dV_withdrawRefusal_17 : decode cV_withdrawRefusal 17 = .ok (.iconst 1, 1) := by decide +kernel
theorem dV_withdrawRefusal_18 : decode cV_withdrawRefusal 18 = .ok (.ireturn, 1) := by decide +kernel
abbrev cV_why : ByteArray := prog_1_method_15_code
abbrev yV_why : MethodName := ⟨"DrawingVault", "why", "()I"⟩
theorem dV_why_0 : decode cV_why 0 = .ok (.aload_n 0, 1) := by decide +kernel
theorem dV_why_1 : decode cV_why 1 = .ok (.getfield 160, 3) := by decide +kernel
theorem dV_why_4 : decode cV_why 4 = .ok (.ireturn, 1) := by decide +kernel

/-- the words of the tables that every callee may carry -/
def aw : List Cond := lw_tbl.filter goodWord
theorem aw_in {w : Cond} (h : w ∈ lw_tbl) (g : goodWord w = true) : w ∈ aw := List.mem_filter.mpr ⟨h, g⟩
theorem aw_good {w : Cond} (h : w ∈ aw) : (w.onTables && w.keeps) = true ∨ ∃ ty, w = .arrayClass ty := good_of_word (List.mem_filter.mp h).2
theorem tb_1 {w : Cond} (h : w ∈ tables_1_1) : w ∈ lw_tbl := List.mem_append_right _ (List.mem_append_left _ h)
theorem tb_2 {w : Cond} (h : w ∈ tables_1_2) : w ∈ lw_tbl := List.mem_append_right _ (List.mem_append_right _ (List.mem_append_left _ h))
theorem tb_3 {w : Cond} (h : w ∈ tables_1_3) : w ∈ lw_tbl := List.mem_append_right _ (List.mem_append_right _ (List.mem_append_right _ (List.mem_append_left _ h)))
theorem tb_4 {w : Cond} (h : w ∈ tables_1_4) : w ∈ lw_tbl := List.mem_append_right _ (List.mem_append_right _ (List.mem_append_right _ (List.mem_append_right _ (List.mem_append_left _ h))))
theorem tb_5 {w : Cond} (h : w ∈ tables_1_5) : w ∈ lw_tbl := List.mem_append_right _ (List.mem_append_right _ (List.mem_append_right _ (List.mem_append_right _ (List.mem_append_right _ h))))
theorem tb_s {q : MethodName × Nat} (h : q ∈ lw_privs) : Cond.selects q.1.cls q.1 q.1 ∈ lw_tbl := List.mem_append_left _ (List.mem_map.mpr ⟨q, h, rfl⟩)
theorem gI {c : Cond} (h : c ∈ aw) : GoodIn aw (c :: aw) := fun w hw => (List.mem_cons.mp hw).elim (fun e => e ▸ ⟨h, aw_good h⟩) (fun h2 => ⟨h2, aw_good h2⟩)
theorem gA {l1 l2 : List Cond} (h1 : ∀ w ∈ l1, w ∈ aw) (h2 : GoodIn aw l2) : GoodIn aw (l1 ++ l2) := fun w hw => (List.mem_append.mp hw).elim (fun h => ⟨h1 w h, aw_good (h1 w h)⟩) (h2 w)
theorem gV {own C : String} {idx : Nat} {y : MethodName} {c : Cond} (h1 : Cond.methodLink own idx y ∈ aw) (h2 : Cond.instanceMethod y ∈ aw) (h3 : Cond.selects C y y ∈ aw) (h4 : Cond.initialized C ∈ aw) (h5 : c ∈ aw) : GoodIn aw (wsV own idx C y (c :: aw)) :=
  gA (fun w hw => by simp only [List.mem_cons, List.not_mem_nil, or_false] at hw; rcases hw with rfl | rfl | rfl | rfl <;> assumption) (gI h5)
theorem gS {own : String} {idx : Nat} {y : MethodName} {c : Cond} (h1 : Cond.methodLink own idx y ∈ aw) (h2 : Cond.static y ∈ aw) (h3 : Cond.initialized own ∈ aw) (h5 : c ∈ aw) : GoodIn aw (wsS own idx y (c :: aw)) :=
  gA (fun w hw => by simp only [List.mem_cons, List.not_mem_nil, or_false] at hw; rcases hw with rfl | rfl | rfl <;> assumption) (gI h5)
theorem gSU {own : String} {idx : Nat} {y : MethodName} {c : Cond} (h1 : Cond.methodLink own idx y ∈ aw) (h2 : Cond.static y ∈ aw) (h3 : Cond.initialized y.cls ∈ aw) (h5 : c ∈ aw) : GoodIn aw (va_wsS own idx y (c :: aw)) :=
  gA (fun w hw => by simp only [List.mem_cons, List.not_mem_nil, or_false] at hw; rcases hw with rfl | rfl | rfl <;> assumption) (gI h5)
/-- the start of a method that only reads -/
def pR (D : va_G) (ws : va_W) (tys : List (ClassId × FieldType)) (av : List Value) : Array Value → State → Prop := va_Pc av (fun U => va_P D kCl ws U.heap ∧ va_K D kCl tys U)
theorem pR_blind {D : va_G} {ws : va_W} {tys : List (ClassId × FieldType)} {av : List Value} : FrameBlind (pR D ws tys av) := fun a U g mk h => ⟨h.1, h.2.1, va_K.moved (u := U) (U := U.calling g mk a) (Vm.Alike.refl U.vm) h.2.2⟩
theorem pR_pre {D : va_G} {ws : va_W} {tys : List (ClassId × FieldType)} {av : List Value} {s : State} {H : Heap} (hP : va_P D kCl ws H) (hK : va_K D kCl tys s) : ∀ U : State, U.heap = H → s.WarmedH U.vm → pR D ws tys av av.toArray U := fun U hU hW => ⟨rfl, by rw [hU]; exact hP, va_K.moved hW.alike hK⟩
/-- the start of a method that writes in its world -/
def pW (D : va_G) (sz : Nat) (ws : va_W) (tys : List (ClassId × FieldType)) (av : List Value) : Array Value → State → Prop := va_Pc av (fun U => U.heap.size = sz ∧ va_P D kCl ws U.heap ∧ va_K D kCl tys U ∧ va_D (fun _ => True) ws)
theorem pW_blind {D : va_G} {sz : Nat} {ws : va_W} {tys : List (ClassId × FieldType)} {av : List Value} : FrameBlind (pW D sz ws tys av) := fun a U g mk h => ⟨h.1, h.2.1, h.2.2.1, va_K.moved (u := U) (U := U.calling g mk a) (Vm.Alike.refl U.vm) h.2.2.2.1, h.2.2.2.2⟩
theorem pW_pre {D : va_G} {ws : va_W} {tys : List (ClassId × FieldType)} {av : List Value} {s : State} {H : Heap} {A : Nat → Prop} (hP : va_P D kCl ws H) (hK : va_K D kCl tys s) (hD : va_D A ws) : ∀ U : State, U.heap = H → s.WarmedH U.vm → pW D H.size ws tys av av.toArray U := fun U hU hW => ⟨rfl, by rw [hU], by rw [hU]; exact hP, va_K.moved hW.alike hK, hD.weaken (fun _ _ _ _ => trivial)⟩
/-- the world behind a method -/
def wW (D : va_G) (A : Nat → Prop) (ws : va_W) (tys : List (ClassId × FieldType)) (t : State) : Prop := va_P D kCl ws t.heap ∧ va_K D kCl tys t ∧ va_D A ws
theorem vp_in_lit (i : Int32) (n : Nat) (h : vp_in i n) : vp_in i n := h
theorem vin_of {i : Int32} {n : Nat} {k : Int32} (hk : k.toInt = n) (h1 : ¬ i < 0) (h2 : ¬ k ≤ i) : vp_in i n := vp_in_iff.mpr ⟨by have := Int32.not_lt.mp h1; exact Int32.le_iff_toInt_le.mp this, by rw [← hk]; exact Int32.lt_iff_toInt_lt.mp (Int32.not_le.mp h2)⟩
theorem wd_0 : (.code ⟨"DrawingVault", "isPerson", "(I)Z"⟩ prog_1_method_42_code 1 (Option.some .boolean) : Cond) ∈ aw := aw_in (tb_2 (List.mem_of_getElem? (i := 72) rfl)) rfl
theorem wd_1 : (.methodLink "DrawingVault" 47 ⟨"DrawingVault", "isPerson", "(I)Z"⟩ : Cond) ∈ aw := aw_in (tb_2 (List.mem_of_getElem? (i := 70) rfl)) rfl
theorem wd_2 : (.static ⟨"DrawingVault", "isPerson", "(I)Z"⟩ : Cond) ∈ aw := aw_in (tb_2 (List.mem_of_getElem? (i := 71) rfl)) rfl
theorem wd_3 : (.initialized "DrawingVault" : Cond) ∈ aw := aw_in (tb_1 (List.mem_of_getElem? (i := 1) rfl)) rfl
theorem wd_4 : (.fieldLink "DrawingVault" 9 "DrawingVault" "rightsOf" "[I" : Cond) ∈ aw := aw_in (tb_1 (List.mem_of_getElem? (i := 99) rfl)) rfl
theorem wd_5 : (.fieldLink "DrawingVault" 40 "DrawingVault" "pages" "LDrawingVault$Pages;" : Cond) ∈ aw := aw_in (tb_1 (List.mem_of_getElem? (i := 106) rfl)) rfl
theorem wd_6 : (.fieldLink "DrawingVault" 230 "DrawingVault$Pages" "failed" "Z" : Cond) ∈ aw := aw_in (tb_1 (List.mem_of_getElem? (i := 83) rfl)) rfl
theorem wd_7 : (.fieldLink "DrawingVault" 67 "DrawingVault" "drawingCount" "I" : Cond) ∈ aw := aw_in (tb_1 (List.mem_of_getElem? (i := 101) rfl)) rfl
theorem wd_8 : (.code ⟨"DrawingVault", "drawingAt", "(I)LDrawingVault$Drawing;"⟩ prog_1_method_44_code 2 (Option.some (.object "DrawingVault$Drawing")) : Cond) ∈ aw := aw_in (tb_1 (List.mem_of_getElem? (i := 138) rfl)) rfl
theorem wd_9 : (.methodLink "DrawingVault" 74 ⟨"DrawingVault", "drawingAt", "(I)LDrawingVault$Drawing;"⟩ : Cond) ∈ aw := aw_in (tb_1 (List.mem_of_getElem? (i := 135) rfl)) rfl
theorem wd_10 : (.instanceMethod ⟨"DrawingVault", "drawingAt", "(I)LDrawingVault$Drawing;"⟩ : Cond) ∈ aw := aw_in (tb_1 (List.mem_of_getElem? (i := 137) rfl)) rfl
theorem wd_11 : (.selects "DrawingVault" ⟨"DrawingVault", "drawingAt", "(I)LDrawingVault$Drawing;"⟩ ⟨"DrawingVault", "drawingAt", "(I)LDrawingVault$Drawing;"⟩ : Cond) ∈ aw := aw_in (tb_s (q := (⟨"DrawingVault", "drawingAt", "(I)LDrawingVault$Drawing;"⟩, _)) (List.mem_append_left _ (List.mem_of_getElem? (i := 0) rfl))) rfl
theorem wd_12 : (.fieldLink "DrawingVault" 21 "DrawingVault" "baselines" "[LDrawingVault$Baseline;" : Cond) ∈ aw := aw_in (tb_1 (List.mem_of_getElem? (i := 103) rfl)) rfl
theorem wd_13 : (.code ⟨"DrawingVault", "hasRight", "(II)Z"⟩ prog_1_method_43_code 3 (Option.some .boolean) : Cond) ∈ aw := aw_in (tb_2 (List.mem_of_getElem? (i := 123) rfl)) rfl
theorem wd_14 : (.methodLink "DrawingVault" 284 ⟨"DrawingVault", "hasRight", "(II)Z"⟩ : Cond) ∈ aw := aw_in (tb_2 (List.mem_of_getElem? (i := 120) rfl)) rfl
theorem wd_15 : (.instanceMethod ⟨"DrawingVault", "hasRight", "(II)Z"⟩ : Cond) ∈ aw := aw_in (tb_2 (List.mem_of_getElem? (i := 122) rfl)) rfl
theorem wd_16 : (.selects "DrawingVault" ⟨"DrawingVault", "hasRight", "(II)Z"⟩ ⟨"DrawingVault", "hasRight", "(II)Z"⟩ : Cond) ∈ aw := aw_in (tb_s (q := (⟨"DrawingVault", "hasRight", "(II)Z"⟩, _)) (List.mem_append_left _ (List.mem_of_getElem? (i := 15) rfl))) rfl
theorem wd_17 : (.code ⟨"DrawingVault", "revisionAt", "(II)LDrawingVault$Revision;"⟩ prog_1_method_45_code 4 (Option.some (.object "DrawingVault$Revision")) : Cond) ∈ aw := aw_in (tb_3 (List.mem_of_getElem? (i := 84) rfl)) rfl
theorem wd_18 : (.methodLink "DrawingVault" 163 ⟨"DrawingVault", "revisionAt", "(II)LDrawingVault$Revision;"⟩ : Cond) ∈ aw := aw_in (tb_3 (List.mem_of_getElem? (i := 81) rfl)) rfl
theorem wd_19 : (.instanceMethod ⟨"DrawingVault", "revisionAt", "(II)LDrawingVault$Revision;"⟩ : Cond) ∈ aw := aw_in (tb_3 (List.mem_of_getElem? (i := 83) rfl)) rfl
theorem wd_20 : (.selects "DrawingVault" ⟨"DrawingVault", "revisionAt", "(II)LDrawingVault$Revision;"⟩ ⟨"DrawingVault", "revisionAt", "(II)LDrawingVault$Revision;"⟩ : Cond) ∈ aw := aw_in (tb_s (q := (⟨"DrawingVault", "revisionAt", "(II)LDrawingVault$Revision;"⟩, _)) (List.mem_append_right _ (List.mem_append_left _ (List.mem_of_getElem? (i := 5) rfl)))) rfl
theorem wd_21 : (.fieldLink "DrawingVault" 160 "DrawingVault" "reason" "I" : Cond) ∈ aw := aw_in (tb_1 (List.mem_of_getElem? (i := 107) rfl)) rfl
theorem wd_22 : (.laysFinal "DrawingVault" "DrawingVault" "rightsOf" "[I" : Cond) ∈ aw := aw_in (tb_1 (List.mem_of_getElem? (i := 108) rfl)) rfl
theorem wd_23 : (.laysFinal "DrawingVault" "DrawingVault" "drawings" "[LDrawingVault$Drawing;" : Cond) ∈ aw := aw_in (tb_1 (List.mem_of_getElem? (i := 110) rfl)) rfl
theorem wd_24 : (.lays "DrawingVault" "DrawingVault" "drawingCount" "I" : Cond) ∈ aw := aw_in (tb_1 (List.mem_of_getElem? (i := 112) rfl)) rfl
theorem wd_25 : (.lays "DrawingVault" "DrawingVault" "revisionCount" "I" : Cond) ∈ aw := aw_in (tb_1 (List.mem_of_getElem? (i := 114) rfl)) rfl
theorem wd_26 : (.laysFinal "DrawingVault" "DrawingVault" "baselines" "[LDrawingVault$Baseline;" : Cond) ∈ aw := aw_in (tb_1 (List.mem_of_getElem? (i := 116) rfl)) rfl
theorem wd_27 : (.lays "DrawingVault" "DrawingVault" "draft" "LDrawingVault$Baseline;" : Cond) ∈ aw := aw_in (tb_1 (List.mem_of_getElem? (i := 118) rfl)) rfl
theorem wd_28 : (.laysFinal "DrawingVault" "DrawingVault" "chunks" "LDrawingVault$ChunkSet;" : Cond) ∈ aw := aw_in (tb_1 (List.mem_of_getElem? (i := 120) rfl)) rfl
theorem wd_29 : (.laysFinal "DrawingVault" "DrawingVault" "pages" "LDrawingVault$Pages;" : Cond) ∈ aw := aw_in (tb_1 (List.mem_of_getElem? (i := 122) rfl)) rfl
theorem wd_30 : (.lays "DrawingVault" "DrawingVault" "reason" "I" : Cond) ∈ aw := aw_in (tb_1 (List.mem_of_getElem? (i := 124) rfl)) rfl
theorem wd_31 : (.laysFinal "DrawingVault$Baseline" "DrawingVault$Baseline" "revisionOf" "[I" : Cond) ∈ aw := aw_in (tb_1 (List.mem_of_getElem? (i := 43) rfl)) rfl
theorem wd_32 : (.laysFinal "DrawingVault$Baseline" "DrawingVault$Baseline" "order" "[I" : Cond) ∈ aw := aw_in (tb_1 (List.mem_of_getElem? (i := 45) rfl)) rfl
theorem wd_33 : (.lays "DrawingVault$Baseline" "DrawingVault$Baseline" "size" "I" : Cond) ∈ aw := aw_in (tb_1 (List.mem_of_getElem? (i := 47) rfl)) rfl
theorem wd_34 : (.laysFinal "DrawingVault$ChunkSet" "DrawingVault$ChunkSet" "pieces" "[J" : Cond) ∈ aw := aw_in (tb_1 (List.mem_of_getElem? (i := 61) rfl)) rfl
theorem wd_35 : (.laysFinal "DrawingVault$ChunkSet" "DrawingVault$ChunkSet" "lengths" "[B" : Cond) ∈ aw := aw_in (tb_1 (List.mem_of_getElem? (i := 63) rfl)) rfl
theorem wd_36 : (.lays "DrawingVault$ChunkSet" "DrawingVault$ChunkSet" "size" "I" : Cond) ∈ aw := aw_in (tb_1 (List.mem_of_getElem? (i := 65) rfl)) rfl
theorem wd_37 : (.lays "DrawingVault$Pages" "DrawingVault$Pages" "free" "I" : Cond) ∈ aw := aw_in (tb_1 (List.mem_of_getElem? (i := 86) rfl)) rfl
theorem wd_38 : (.lays "DrawingVault$Pages" "DrawingVault$Pages" "commands" "I" : Cond) ∈ aw := aw_in (tb_1 (List.mem_of_getElem? (i := 88) rfl)) rfl
theorem wd_39 : (.lays "DrawingVault$Pages" "DrawingVault$Pages" "copiedForward" "I" : Cond) ∈ aw := aw_in (tb_1 (List.mem_of_getElem? (i := 90) rfl)) rfl
theorem wd_40 : (.lays "DrawingVault$Pages" "DrawingVault$Pages" "failed" "Z" : Cond) ∈ aw := aw_in (tb_1 (List.mem_of_getElem? (i := 92) rfl)) rfl
theorem wd_41 : (.lays "DrawingVault$Pages" "DrawingVault$Pages" "failureAhead" "Z" : Cond) ∈ aw := aw_in (tb_1 (List.mem_of_getElem? (i := 94) rfl)) rfl
theorem wd_42 : (.lays "DrawingVault$Pages" "DrawingVault$Pages" "beforeFailure" "I" : Cond) ∈ aw := aw_in (tb_1 (List.mem_of_getElem? (i := 96) rfl)) rfl
theorem wd_43 : (.lays "DrawingVaultModel" "DrawingVaultModel" "thrown" "I" : Cond) ∈ aw := aw_in (tb_4 (List.mem_of_getElem? (i := 41) rfl)) rfl
theorem wd_44 : (.lays "DrawingVaultModel" "DrawingVaultModel" "reason" "I" : Cond) ∈ aw := aw_in (tb_4 (List.mem_of_getElem? (i := 43) rfl)) rfl
theorem wd_45 : (.laysFinal "DrawingVaultModel" "DrawingVaultModel" "now" "[I" : Cond) ∈ aw := aw_in (tb_4 (List.mem_of_getElem? (i := 45) rfl)) rfl
theorem wd_46 : (.laysFinal "DrawingVaultModel" "DrawingVaultModel" "kept" "[I" : Cond) ∈ aw := aw_in (tb_4 (List.mem_of_getElem? (i := 47) rfl)) rfl
theorem wd_47 : (.lays "DrawingVaultModel" "DrawingVaultModel" "failed" "Z" : Cond) ∈ aw := aw_in (tb_4 (List.mem_of_getElem? (i := 49) rfl)) rfl
theorem wd_48 : (.lays "DrawingVaultModel" "DrawingVaultModel" "powerLeft" "I" : Cond) ∈ aw := aw_in (tb_4 (List.mem_of_getElem? (i := 51) rfl)) rfl
theorem wd_49 : (.laysFinal "DrawingVaultModel" "DrawingVaultModel" "marked" "[Z" : Cond) ∈ aw := aw_in (tb_4 (List.mem_of_getElem? (i := 53) rfl)) rfl
theorem wd_50 : (.laysFinal "DrawingVaultModel" "DrawingVaultModel" "come" "[I" : Cond) ∈ aw := aw_in (tb_4 (List.mem_of_getElem? (i := 55) rfl)) rfl
theorem wd_51 : (.lays "DrawingVaultModel" "DrawingVaultModel" "parts2" "Z" : Cond) ∈ aw := aw_in (tb_4 (List.mem_of_getElem? (i := 57) rfl)) rfl
theorem wd_52 : (.lays "DrawingVaultModel" "DrawingVaultModel" "open" "Z" : Cond) ∈ aw := aw_in (tb_4 (List.mem_of_getElem? (i := 59) rfl)) rfl
theorem wd_53 : (.laysFinal "DrawingVaultModel" "DrawingVaultModel" "seen" "[Z" : Cond) ∈ aw := aw_in (tb_4 (List.mem_of_getElem? (i := 61) rfl)) rfl
theorem inV : ∀ w ∈ u_ws RV TV 9, w ∈ aw := by
  intro w hw
  obtain ⟨k, hk, rfl⟩ := List.mem_map.mp hw
  rw [List.mem_range] at hk
  rcases (show k = 0 ∨ k = 1 ∨ k = 2 ∨ k = 3 ∨ k = 4 ∨ k = 5 ∨ k = 6 ∨ k = 7 ∨ k = 8 by omega) with rfl | rfl | rfl | rfl | rfl | rfl | rfl | rfl | rfl
  · exact wd_22
  · exact wd_23
  · exact wd_24
  · exact wd_25
  · exact wd_26
  · exact wd_27
  · exact wd_28
  · exact wd_29
  · exact wd_30
theorem inB : ∀ w ∈ u_ws RB TB 3, w ∈ aw := by
  intro w hw
  obtain ⟨k, hk, rfl⟩ := List.mem_map.mp hw
  rw [List.mem_range] at hk
  rcases (show k = 0 ∨ k = 1 ∨ k = 2 by omega) with rfl | rfl | rfl
  · exact wd_31
  · exact wd_32
  · exact wd_33
theorem inK : ∀ w ∈ u_ws RK TK 3, w ∈ aw := by
  intro w hw
  obtain ⟨k, hk, rfl⟩ := List.mem_map.mp hw
  rw [List.mem_range] at hk
  rcases (show k = 0 ∨ k = 1 ∨ k = 2 by omega) with rfl | rfl | rfl
  · exact wd_34
  · exact wd_35
  · exact wd_36
theorem inP : ∀ w ∈ u_ws RP TP 6, w ∈ aw := by
  intro w hw
  obtain ⟨k, hk, rfl⟩ := List.mem_map.mp hw
  rw [List.mem_range] at hk
  rcases (show k = 0 ∨ k = 1 ∨ k = 2 ∨ k = 3 ∨ k = 4 ∨ k = 5 by omega) with rfl | rfl | rfl | rfl | rfl | rfl
  · exact wd_37
  · exact wd_38
  · exact wd_39
  · exact wd_40
  · exact wd_41
  · exact wd_42
theorem inM : ∀ w ∈ u_ws RM TM 11, w ∈ aw := by
  intro w hw
  obtain ⟨k, hk, rfl⟩ := List.mem_map.mp hw
  rw [List.mem_range] at hk
  rcases (show k = 0 ∨ k = 1 ∨ k = 2 ∨ k = 3 ∨ k = 4 ∨ k = 5 ∨ k = 6 ∨ k = 7 ∨ k = 8 ∨ k = 9 ∨ k = 10 by omega) with rfl | rfl | rfl | rfl | rfl | rfl | rfl | rfl | rfl | rfl | rfl
  · exact wd_43
  · exact wd_44
  · exact wd_45
  · exact wd_46
  · exact wd_47
  · exact wd_48
  · exact wd_49
  · exact wd_50
  · exact wd_51
  · exact wd_52
  · exact wd_53
