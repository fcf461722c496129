abbrev cV_isPerson : ByteArray := prog_1_method_42_code
abbrev yV_isPerson : MethodName := ⟨"DrawingVault", "isPerson", "(I)Z"⟩
theorem dV_isPerson_0 : decode cV_isPerson 0 = .ok (.iload_n 0, 1) := by decide +kernel
theorem dV_isPerson_1 : decode cV_isPerson 1 = .ok (.ifCond .lt 13, 3) := by decide +kernel
theorem dV_isPerson_4 : decode cV_isPerson 4 = .ok (.iload_n 0, 1) := by decide +kernel
theorem dV_isPerson_5 : decode cV_isPerson 5 = .ok (.bipush 16, 2) := by decide +kernel
theorem dV_isPerson_7 : decode cV_isPerson 7 = .ok (.if_icmp .ge 7, 3) := by decide +kernel
theorem dV_isPerson_10 : decode cV_isPerson 10 = .ok (.iconst 1, 1) := by decide +kernel
theorem dV_isPerson_11 : decode cV_isPerson 11 = .ok (.goto 4, 3) := by decide +kernel
theorem dV_isPerson_14 : decode cV_isPerson 14 = .ok (.iconst 0, 1) := by decide +kernel
theorem dV_isPerson_15 : decode cV_isPerson 15 = .ok (.ireturn, 1) := by decide +kernel
abbrev cV_hasRight : ByteArray := prog_1_method_43_code
abbrev yV_hasRight : MethodName := ⟨"DrawingVault", "hasRight", "(II)Z"⟩
theorem dV_hasRight_0 : decode cV_hasRight 0 = .ok (.iload_n 1, 1) := by decide +kernel
theorem dV_hasRight_1 : decode cV_hasRight 1 = .ok (.invokestatic 47, 3) := by decide +kernel
theorem dV_hasRight_4 : decode cV_hasRight 4 = .ok (.ifCond .eq 18, 3) := by decide +kernel
theorem dV_hasRight_7 : decode cV_hasRight 7 = .ok (.aload_n 0, 1) := by decide +kernel
theorem dV_hasRight_8 : decode cV_hasRight 8 = .ok (.getfield 9, 3) := by decide +kernel
theorem dV_hasRight_11 : decode cV_hasRight 11 = .ok (.iload_n 1, 1) := by decide +kernel
theorem dV_hasRight_12 : decode cV_hasRight 12 = .ok (.iaload, 1) := by decide +kernel
theorem dV_hasRight_13 : decode cV_hasRight 13 = .ok (.iload_n 2, 1) := by decide +kernel
theorem dV_hasRight_14 : decode cV_hasRight 14 = .ok (.iand, 1) := by decide +kernel
theorem dV_hasRight_15 : decode cV_hasRight 15 = .ok (.ifCond .eq 7, 3) := by decide +kernel
theorem dV_hasRight_22 : decode cV_hasRight 22 = .ok (.iconst 0, 1) := by decide +kernel
theorem dV_hasRight_23 : decode cV_hasRight 23 = .ok (.ireturn, 1) := by decide +kernel
abbrev cV_needPower : ByteArray := prog_1_method_25_code
abbrev yV_needPower : MethodName := ⟨"DrawingVault", "needPower", "()V"⟩
theorem dV_needPower_0 : decode cV_needPower 0 = .ok (.aload_n 0, 1) := by decide +kernel
theorem dV_needPower_1 : decode cV_needPower 1 = .ok (.getfield 40, 3) := by decide +kernel
theorem dV_needPower_4 : decode cV_needPower 4 = .ok (.getfield 230, 3) := by decide +kernel
theorem dV_needPower_7 : decode cV_needPower 7 = .ok (.ifCond .eq 11, 3) := by decide +kernel
theorem dV_needPower_18 : decode cV_needPower 18 = .ok (.return_, 1) := by decide +kernel
abbrev cV_drawingAt : ByteArray := prog_1_method_44_code
abbrev yV_drawingAt : MethodName := ⟨"DrawingVault", "drawingAt", "(I)LDrawingVault$Drawing;"⟩
theorem dV_drawingAt_0 : decode cV_drawingAt 0 = .ok (.iload_n 1, 1) := by decide +kernel
theorem dV_drawingAt_1 : decode cV_drawingAt 1 = .ok (.ifCond .lt 20, 3) := by decide +kernel
theorem dV_drawingAt_4 : decode cV_drawingAt 4 = .ok (.iload_n 1, 1) := by decide +kernel
theorem dV_drawingAt_5 : decode cV_drawingAt 5 = .ok (.aload_n 0, 1) := by decide +kernel
theorem dV_drawingAt_6 : decode cV_drawingAt 6 = .ok (.getfield 67, 3) := by decide +kernel
theorem dV_drawingAt_9 : decode cV_drawingAt 9 = .ok (.if_icmp .ge 12, 3) := by decide +kernel
theorem dV_drawingAt_21 : decode cV_drawingAt 21 = .ok (.aconst_null, 1) := by decide +kernel
theorem dV_drawingAt_22 : decode cV_drawingAt 22 = .ok (.areturn, 1) := by decide +kernel
abbrev cV_revisionAt : ByteArray := prog_1_method_45_code
abbrev yV_revisionAt : MethodName := ⟨"DrawingVault", "revisionAt", "(II)LDrawingVault$Revision;"⟩
theorem dV_revisionAt_0 : decode cV_revisionAt 0 = .ok (.aload_n 0, 1) := by decide +kernel
theorem dV_revisionAt_1 : decode cV_revisionAt 1 = .ok (.iload_n 1, 1) := by decide +kernel
theorem dV_revisionAt_2 : decode cV_revisionAt 2 = .ok (.invokevirtual 74, 3) := by decide +kernel
theorem dV_revisionAt_5 : decode cV_revisionAt 5 = .ok (.astore_n 3, 1) := by decide +kernel
theorem dV_revisionAt_6 : decode cV_revisionAt 6 = .ok (.aload_n 3, 1) := by decide +kernel
theorem dV_revisionAt_7 : decode cV_revisionAt 7 = .ok (.ifnull 20, 3) := by decide +kernel
theorem dV_revisionAt_27 : decode cV_revisionAt 27 = .ok (.aconst_null, 1) := by decide +kernel
theorem dV_revisionAt_28 : decode cV_revisionAt 28 = .ok (.areturn, 1) := by decide +kernel
abbrev cV_baselineAt : ByteArray := prog_1_method_46_code
abbrev yV_baselineAt : MethodName := ⟨"DrawingVault", "baselineAt", "(I)LDrawingVault$Baseline;"⟩
theorem dV_baselineAt_0 : decode cV_baselineAt 0 = .ok (.iload_n 1, 1) := by decide +kernel
theorem dV_baselineAt_1 : decode cV_baselineAt 1 = .ok (.ifCond .lt 18, 3) := by decide +kernel
theorem dV_baselineAt_4 : decode cV_baselineAt 4 = .ok (.iload_n 1, 1) := by decide +kernel
theorem dV_baselineAt_5 : decode cV_baselineAt 5 = .ok (.bipush 10, 2) := by decide +kernel
theorem dV_baselineAt_7 : decode cV_baselineAt 7 = .ok (.if_icmp .ge 12, 3) := by decide +kernel
theorem dV_baselineAt_10 : decode cV_baselineAt 10 = .ok (.aload_n 0, 1) := by decide +kernel
theorem dV_baselineAt_11 : decode cV_baselineAt 11 = .ok (.getfield 21, 3) := by decide +kernel
theorem dV_baselineAt_14 : decode cV_baselineAt 14 = .ok (.iload_n 1, 1) := by decide +kernel
theorem dV_baselineAt_15 : decode cV_baselineAt 15 = .ok (.aaload, 1) := by decide +kernel
theorem dV_baselineAt_16 : decode cV_baselineAt 16 = .ok (.goto 4, 3) := by decide +kernel
theorem dV_baselineAt_19 : decode cV_baselineAt 19 = .ok (.aconst_null, 1) := by decide +kernel
theorem dV_baselineAt_20 : decode cV_baselineAt 20 = .ok (.areturn, 1) := by decide +kernel
abbrev cV_outRefusal : ByteArray := prog_1_method_31_code
abbrev yV_outRefusal : MethodName := ⟨"DrawingVault", "outRefusal", "(LDrawingVault$Drawing;I)I"⟩
theorem dV_outRefusal_0 : decode cV_outRefusal 0 = .ok (.aload_n 0, 1) := by decide +kernel
theorem dV_outRefusal_1 : decode cV_outRefusal 1 = .ok (.iload_n 2, 1) := by decide +kernel
theorem dV_outRefusal_2 : decode cV_outRefusal 2 = .ok (.bipush 7, 2) := by decide +kernel
theorem dV_outRefusal_4 : decode cV_outRefusal 4 = .ok (.invokevirtual 284, 3) := by decide +kernel
theorem dV_outRefusal_7 : decode cV_outRefusal 7 = .ok (.ifCond .ne 5, 3) := by decide +kernel
theorem dV_outRefusal_10 : decode cV_outRefusal 10 = .ok (.iconst 1, 1) := by decide +kernel
theorem dV_outRefusal_11 : decode cV_outRefusal 11 = .ok (.ireturn, 1) := by decide +kernel
abbrev cV_copyRefusal : ByteArray := prog_1_method_32_code
abbrev yV_copyRefusal : MethodName := ⟨"DrawingVault", "copyRefusal", "(LDrawingVault$Drawing;I)I"⟩
theorem dV_copyRefusal_0 : decode cV_copyRefusal 0 = .ok (.aload_n 0, 1) := by decide +kernel
theorem dV_copyRefusal_1 : decode cV_copyRefusal 1 = .ok (.iload_n 2, 1) := by decide +kernel
theorem dV_copyRefusal_2 : decode cV_copyRefusal 2 = .ok (.bipush 7, 2) := by decide +kernel
theorem dV_copyRefusal_4 : decode cV_copyRefusal 4 = .ok (.invokevirtual 284, 3) := by decide +kernel
theorem dV_copyRefusal_7 : decode cV_copyRefusal 7 = .ok (.ifCond .ne 5, 3) := by decide +kernel
theorem dV_copyRefusal_10 : decode cV_copyRefusal 10 = .ok (.iconst 1, 1) := by decide +kernel
theorem dV_copyRefusal_11 : decode cV_copyRefusal 11 = .ok (.ireturn, 1) := by decide +kernel
abbrev cV_drawingRefusal : ByteArray := prog_1_method_30_code
abbrev yV_drawingRefusal : MethodName := ⟨"DrawingVault", "drawingRefusal", "(I)I"⟩
theorem dV_drawingRefusal_0 : decode cV_drawingRefusal 0 = .ok (.aload_n 0, 1) := by decide +kernel
theorem dV_drawingRefusal_1 : decode cV_drawingRefusal 1 = .ok (.iload_n 1, 1) := by decide +kernel
theorem dV_drawingRefusal_2 : decode cV_drawingRefusal 2 = .ok (.iconst 1, 1) := by decide +kernel
theorem dV_drawingRefusal_3 : decode cV_drawingRefusal 3 = .ok (.invokevirtual 284, 3) := by decide +kernel
theorem dV_drawingRefusal_6 : decode cV_drawingRefusal 6 = .ok (.ifCond .ne 5, 3) := by decide +kernel
theorem dV_drawingRefusal_9 : decode cV_drawingRefusal 9 = .ok (.iconst 1, 1) := by decide +kernel
theorem dV_drawingRefusal_10 : decode cV_drawingRefusal 10 = .ok (.ireturn, 1) := by decide +kernel
abbrev cV_checkRefusal : ByteArray := prog_1_method_35_code
abbrev yV_checkRefusal : MethodName := ⟨"DrawingVault", "checkRefusal", "(III)I"⟩
theorem dV_checkRefusal_0 : decode cV_checkRefusal 0 = .ok (.aload_n 0, 1) := by decide +kernel
theorem dV_checkRefusal_1 : decode cV_checkRefusal 1 = .ok (.iload_n 1, 1) := by decide +kernel
theorem dV_checkRefusal_2 : decode cV_checkRefusal 2 = .ok (.invokevirtual 74, 3) := by decide +kernel
theorem dV_checkRefusal_5 : decode cV_checkRefusal 5 = .ok (.astore 4, 2) := by decide +kernel
theorem dV_checkRefusal_7 : decode cV_checkRefusal 7 = .ok (.aload_n 0, 1) := by decide +kernel
theorem dV_checkRefusal_8 : decode cV_checkRefusal 8 = .ok (.iload_n 1, 1) := by decide +kernel
theorem dV_checkRefusal_9 : decode cV_checkRefusal 9 = .ok (.iload_n 2, 1) := by decide +kernel
theorem dV_checkRefusal_10 : decode cV_checkRefusal 10 = .ok (.invokevirtual 163, 3) := by decide +kernel
theorem dV_checkRefusal_13 : decode cV_checkRefusal 13 = .ok (.astore 5, 2) := by decide +kernel
theorem dV_checkRefusal_15 : decode cV_checkRefusal 15 = .ok (.aload_n 0, 1) := by decide +kernel
theorem dV_checkRefusal_16 : decode cV_checkRefusal 16 = .ok (.iload_n 3, 1) := by decide +kernel
theorem dV_checkRefusal_17 : decode cV_checkRefusal 17 = .ok (.iconst 2, 1) := by decide +kernel
theorem dV_checkRefusal_18 : decode cV_checkRefusal 18 = .ok (.invokevirtual 284, 3) := by decide +kernel
theorem dV_checkRefusal_21 : decode cV_checkRefusal 21 = .ok (.ifCond .ne 5, 3) := by decide +kernel
theorem dV_checkRefusal_24 : decode cV_checkRefusal 24 = .ok (.iconst 1, 1) := by decide +kernel
theorem dV_checkRefusal_25 : decode cV_checkRefusal 25 = .ok (.ireturn, 1) := by decide +kernel
abbrev cV_releaseRefusal : ByteArray := prog_1_method_36_code
abbrev yV_releaseRefusal : MethodName := ⟨"DrawingVault", "releaseRefusal", "(III)I"⟩
theorem dV_releaseRefusal_0 : decode cV_releaseRefusal 0 = .ok (.aload_n 0, 1) := by decide +kernel
theorem dV_releaseRefusal_1 : decode cV_releaseRefusal 1 = .ok (.iload_n 1, 1) := by decide +kernel
theorem dV_releaseRefusal_2 : decode cV_releaseRefusal 2 = .ok (.iload_n 2, 1) := by decide +kernel
theorem dV_releaseRefusal_3 : decode cV_releaseRefusal 3 = .ok (.invokevirtual 163, 3) := by decide +kernel
theorem dV_releaseRefusal_6 : decode cV_releaseRefusal 6 = .ok (.astore 4, 2) := by decide +kernel
theorem dV_releaseRefusal_8 : decode cV_releaseRefusal 8 = .ok (.aload_n 0, 1) := by decide +kernel
theorem dV_releaseRefusal_9 : decode cV_releaseRefusal 9 = .ok (.iload_n 3, 1) := by decide +kernel
theorem dV_releaseRefusal_10 : decode cV_releaseRefusal 10 = .ok (.iconst 4, 1) := by decide +kernel
theorem dV_releaseRefusal_11 : decode cV_releaseRefusal 11 = .ok (.invokevirtual 284, 3) := by decide +kernel
theorem dV_releaseRefusal_14 : decode cV_releaseRefusal 14 = .ok (.ifCond .ne 5, 3) := by decide +kernel
theorem dV_releaseRefusal_17 : decode cV_releaseRefusal 17 = .ok (.iconst 1, 1) := by decide +kernel
theorem dV_releaseRefusal_18 : decode cV_releaseRefusal 18 = .ok (.ireturn, 1) := by decide +kernel
abbrev cV_withdrawRefusal : ByteArray := prog_1_method_37_code
abbrev yV_withdrawRefusal : MethodName := ⟨"DrawingVault", "withdrawRefusal", "(III)I"⟩
theorem dV_withdrawRefusal_0 : decode cV_withdrawRefusal 0 = .ok (.aload_n 0, 1) := by decide +kernel
theorem dV_withdrawRefusal_1 : decode cV_withdrawRefusal 1 = .ok (.iload_n 1, 1) := by decide +kernel
theorem dV_withdrawRefusal_2 : decode cV_withdrawRefusal 2 = .ok (.iload_n 2, 1) := by decide +kernel
theorem dV_withdrawRefusal_3 : decode cV_withdrawRefusal 3 = .ok (.invokevirtual 163, 3) := by decide +kernel
theorem dV_withdrawRefusal_6 : decode cV_withdrawRefusal 6 = .ok (.astore 4, 2) := by decide +kernel
theorem dV_withdrawRefusal_8 : decode cV_withdrawRefusal 8 = .ok (.aload_n 0, 1) := by decide +kernel
theorem dV_withdrawRefusal_9 : decode cV_withdrawRefusal 9 = .ok (.iload_n 3, 1) := by decide +kernel
theorem dV_withdrawRefusal_10 : decode cV_withdrawRefusal 10 = .ok (.iconst 4, 1) := by decide +kernel
theorem dV_withdrawRefusal_11 : decode cV_withdrawRefusal 11 = .ok (.invokevirtual 284, 3) := by decide +kernel
theorem dV_withdrawRefusal_14 : decode cV_withdrawRefusal 14 = .ok (.ifCond .ne 5, 3) := by decide +kernel
theorem dV_withdrawRefusal_17 : decode cV_withdrawRefusal 17 = .ok (.iconst 1, 1) := by decide +kernel
theorem dV_withdrawRefusal_18 : decode cV_withdrawRefusal 18 = .ok (.ireturn, 1) := by decide +kernel
abbrev cV_why : ByteArray := prog_1_method_15_code
abbrev yV_why : MethodName := ⟨"DrawingVault", "why", "()I"⟩
theorem dV_why_0 : decode cV_why 0 = .ok (.aload_n 0, 1) := by decide +kernel
theorem dV_why_1 : decode cV_why 1 = .ok (.getfield 160, 3) := by decide +kernel
theorem dV_why_4 : decode cV_why 4 = .ok (.ireturn, 1) := by decide +kernel
theorem wd_32 : (.code ⟨"DrawingVault", "isPerson", "(I)Z"⟩ prog_1_method_42_code 1 (Option.some .boolean) : Cond) ∈ aw := aw_in (tb_2 (List.mem_of_getElem? (i := 72) rfl)) rfl
theorem wd_33 : (.methodLink "DrawingVault" 47 ⟨"DrawingVault", "isPerson", "(I)Z"⟩ : Cond) ∈ aw := aw_in (tb_2 (List.mem_of_getElem? (i := 70) rfl)) rfl
theorem wd_34 : (.static ⟨"DrawingVault", "isPerson", "(I)Z"⟩ : Cond) ∈ aw := aw_in (tb_2 (List.mem_of_getElem? (i := 71) rfl)) rfl
theorem wd_35 : (.initialized "DrawingVault" : Cond) ∈ aw := aw_in (tb_1 (List.mem_of_getElem? (i := 1) rfl)) rfl
theorem wd_36 : (.fieldLink "DrawingVault" 9 "DrawingVault" "rightsOf" "[I" : Cond) ∈ aw := aw_in (tb_1 (List.mem_of_getElem? (i := 99) rfl)) rfl
theorem wd_37 : (.fieldLink "DrawingVault" 40 "DrawingVault" "pages" "LDrawingVault$Pages;" : Cond) ∈ aw := aw_in (tb_1 (List.mem_of_getElem? (i := 106) rfl)) rfl
theorem wd_38 : (.fieldLink "DrawingVault" 230 "DrawingVault$Pages" "failed" "Z" : Cond) ∈ aw := aw_in (tb_1 (List.mem_of_getElem? (i := 83) rfl)) rfl
theorem wd_39 : (.fieldLink "DrawingVault" 67 "DrawingVault" "drawingCount" "I" : Cond) ∈ aw := aw_in (tb_1 (List.mem_of_getElem? (i := 101) rfl)) rfl
theorem wd_40 : (.code ⟨"DrawingVault", "drawingAt", "(I)LDrawingVault$Drawing;"⟩ prog_1_method_44_code 2 (Option.some (.object "DrawingVault$Drawing")) : Cond) ∈ aw := aw_in (tb_1 (List.mem_of_getElem? (i := 138) rfl)) rfl
theorem wd_41 : (.methodLink "DrawingVault" 74 ⟨"DrawingVault", "drawingAt", "(I)LDrawingVault$Drawing;"⟩ : Cond) ∈ aw := aw_in (tb_1 (List.mem_of_getElem? (i := 135) rfl)) rfl
theorem wd_42 : (.instanceMethod ⟨"DrawingVault", "drawingAt", "(I)LDrawingVault$Drawing;"⟩ : Cond) ∈ aw := aw_in (tb_1 (List.mem_of_getElem? (i := 137) rfl)) rfl
theorem wd_43 : (.selects "DrawingVault" ⟨"DrawingVault", "drawingAt", "(I)LDrawingVault$Drawing;"⟩ ⟨"DrawingVault", "drawingAt", "(I)LDrawingVault$Drawing;"⟩ : Cond) ∈ aw := aw_in (tb_s (q := (⟨"DrawingVault", "drawingAt", "(I)LDrawingVault$Drawing;"⟩, _)) (List.mem_append_left _ (List.mem_of_getElem? (i := 0) rfl))) rfl
theorem wd_44 : (.fieldLink "DrawingVault" 21 "DrawingVault" "baselines" "[LDrawingVault$Baseline;" : Cond) ∈ aw := aw_in (tb_1 (List.mem_of_getElem? (i := 103) rfl)) rfl
theorem wd_45 : (.code ⟨"DrawingVault", "hasRight", "(II)Z"⟩ prog_1_method_43_code 3 (Option.some .boolean) : Cond) ∈ aw := aw_in (tb_2 (List.mem_of_getElem? (i := 123) rfl)) rfl
theorem wd_46 : (.methodLink "DrawingVault" 284 ⟨"DrawingVault", "hasRight", "(II)Z"⟩ : Cond) ∈ aw := aw_in (tb_2 (List.mem_of_getElem? (i := 120) rfl)) rfl
theorem wd_47 : (.instanceMethod ⟨"DrawingVault", "hasRight", "(II)Z"⟩ : Cond) ∈ aw := aw_in (tb_2 (List.mem_of_getElem? (i := 122) rfl)) rfl
theorem wd_48 : (.selects "DrawingVault" ⟨"DrawingVault", "hasRight", "(II)Z"⟩ ⟨"DrawingVault", "hasRight", "(II)Z"⟩ : Cond) ∈ aw := aw_in (tb_s (q := (⟨"DrawingVault", "hasRight", "(II)Z"⟩, _)) (List.mem_append_left _ (List.mem_of_getElem? (i := 15) rfl))) rfl
theorem wd_49 : (.code ⟨"DrawingVault", "revisionAt", "(II)LDrawingVault$Revision;"⟩ prog_1_method_45_code 4 (Option.some (.object "DrawingVault$Revision")) : Cond) ∈ aw := aw_in (tb_3 (List.mem_of_getElem? (i := 84) rfl)) rfl
theorem wd_50 : (.methodLink "DrawingVault" 163 ⟨"DrawingVault", "revisionAt", "(II)LDrawingVault$Revision;"⟩ : Cond) ∈ aw := aw_in (tb_3 (List.mem_of_getElem? (i := 81) rfl)) rfl
theorem wd_51 : (.instanceMethod ⟨"DrawingVault", "revisionAt", "(II)LDrawingVault$Revision;"⟩ : Cond) ∈ aw := aw_in (tb_3 (List.mem_of_getElem? (i := 83) rfl)) rfl
theorem wd_52 : (.selects "DrawingVault" ⟨"DrawingVault", "revisionAt", "(II)LDrawingVault$Revision;"⟩ ⟨"DrawingVault", "revisionAt", "(II)LDrawingVault$Revision;"⟩ : Cond) ∈ aw := aw_in (tb_s (q := (⟨"DrawingVault", "revisionAt", "(II)LDrawingVault$Revision;"⟩, _)) (List.mem_append_right _ (List.mem_append_left _ (List.mem_of_getElem? (i := 5) rfl)))) rfl
theorem wd_53 : (.fieldLink "DrawingVault" 160 "DrawingVault" "reason" "I" : Cond) ∈ aw := aw_in (tb_1 (List.mem_of_getElem? (i := 107) rfl)) rfl

set_option maxHeartbeats 4000000 in
set_option maxRecDepth 100000 in
theorem v_isPerson (l : Launch) (dC : Nat → ClassId) (dI : Nat → Nat → Nat) (pp : Int32) : Met l yV_isPerson (.code yV_isPerson cV_isPerson 1 (some .boolean) :: aw) ({ frames := 0, cells := 0, slots := 0, locals := 0 }) (pR (dC, dI) [] [] [.int pp]) (vp_Si (fun r => (r = 1 ∧ (¬ pp < 0 ∧ ¬ (16 : Int32) ≤ pp)) ∨ (r = 0 ∧ (pp < 0 ∨ (16 : Int32) ≤ pp)))) 0 0 (fun _ => False) := by
  refine Met.ofW (cc := cV_isPerson) (maxL := 1) (ret := (some .boolean)) (by decide) rfl ?_
  intro p e s m args below meth c s₁ B hml hv
  obtain ⟨rfl, hv⟩ := hv
  have hx := B.exec
  have hb := B.bytes
  have hr := B.returns
  have hts : ∀ w ∈ aw, w.before _ s = true := fun w h => atoms_spec (ws := (.code yV_isPerson cV_isPerson 1 (some .boolean) :: aw)) B.pre w (List.mem_cons_of_mem _ h)
  have hown : s.vm.findClass RV = some m.cls := findClass_of_methodNamed B.named
  have hlocks := B.notSynchronized
  obtain ⟨hP, hK⟩ := hv
  obtain ⟨H, hH⟩ : ∃ H, H = s.heap := ⟨_, rfl⟩
  rw [← hH] at hP ⊢
  have hl := lv_entry ([.int pp]) (n := 1) (Nat.le_of_ble_eq_true rfl)
  rw [lg_entry_eq]
  generalize (lg_sl ([.int pp]) ++ List.replicate (1 - (lg_sl ([.int pp])).length) Slot.unset).toArray = ls at hl ⊢
  have hl : lv_has ls 1 [(0, .int pp)] := hl
  refine lv_iload_n (pc := 0) hx hb dV_isPerson_0 rfl (lv_at hl 0 rfl) ?_
  refine lv_if_lt (pc := 1) (tgt := 14) hx hb dV_isPerson_1 rfl (fun h1 => ?_) (fun h1 => ?_)
  · refine lv_iconst (pc := 14) (v := 0) hx hb dV_isPerson_14 (by decide) ?_
    exact W.zret (pc := 15) hx hb hr rfl (fun t ht hW => ⟨_, rfl, (Or.inr ⟨rfl, by first | assumption | exact ⟨by assumption, by assumption⟩ | exact Or.inl (by assumption) | exact Or.inr (by assumption) | exact Or.inr (Or.inl (by assumption)) | exact Or.inr (Or.inr (by assumption)) | simp_all⟩), ht.trans hH⟩) (fun q h => nomatch h) dV_isPerson_15
  · refine lv_iload_n (pc := 4) hx hb dV_isPerson_4 rfl (lv_at hl 0 rfl) ?_
    refine lv_bipush (pc := 5) (v := 16) hx hb dV_isPerson_5 (by decide) ?_
    refine lv_icmp_ge (pc := 7) (tgt := 14) hx hb dV_isPerson_7 rfl (fun h2 => ?_) (fun h2 => ?_)
    · refine lv_iconst (pc := 14) (v := 0) hx hb dV_isPerson_14 (by decide) ?_
      exact W.zret (pc := 15) hx hb hr rfl (fun t ht hW => ⟨_, rfl, (Or.inr ⟨rfl, by first | assumption | exact ⟨by assumption, by assumption⟩ | exact Or.inl (by assumption) | exact Or.inr (by assumption) | exact Or.inr (Or.inl (by assumption)) | exact Or.inr (Or.inr (by assumption)) | simp_all⟩), ht.trans hH⟩) (fun q h => nomatch h) dV_isPerson_15
    · refine lv_iconst (pc := 10) (v := 1) hx hb dV_isPerson_10 (by decide) ?_
      refine lv_goto (pc := 11) (tgt := 15) hx hb dV_isPerson_11 rfl ?_
      exact W.zret (pc := 15) hx hb hr rfl (fun t ht hW => ⟨_, rfl, (Or.inl ⟨rfl, by first | assumption | exact ⟨by assumption, by assumption⟩ | exact Or.inl (by assumption) | exact Or.inr (by assumption) | exact Or.inr (Or.inl (by assumption)) | exact Or.inr (Or.inr (by assumption)) | simp_all⟩), ht.trans hH⟩) (fun q h => nomatch h) dV_isPerson_15
set_option maxHeartbeats 4000000 in
set_option maxRecDepth 100000 in
theorem v_hasRight (l : Launch) (dC : Nat → ClassId) (dI : Nat → Nat → Nat) (x : Nat) (rt : Nat) (dr : Nat) (bs : Nat) (df : Nat) (ch : Nat) (pg : Nat) (rs : Int32) (cR : ClassId) (pp : Int32) (kk : Int32) : Met l yV_hasRight (.code yV_hasRight cV_hasRight 3 (some .boolean) :: aw) ({ frames := 1, cells := 0, slots := 0, locals := 20 }) (pR (dC, dI) [(x, .inr (0, [.ref rt, .ref dr, .int 0, .int 0, .ref bs, .ref df, .ref ch, .ref pg, .int rs])), (rt, .inl (cR, 16, .inl (fun _ => 0)))] [(cR, .int)] [.ref x, .int pp, .int kk]) (vp_Si (fun r => r = 0)) 0 0 (fun _ => False) := by
  refine Met.ofW (cc := cV_hasRight) (maxL := 3) (ret := (some .boolean)) (by decide) rfl ?_
  intro p e s m args below meth c s₁ B hml hv
  obtain ⟨rfl, hv⟩ := hv
  have hx := B.exec
  have hb := B.bytes
  have hr := B.returns
  have hts : ∀ w ∈ aw, w.before _ s = true := fun w h => atoms_spec (ws := (.code yV_hasRight cV_hasRight 3 (some .boolean) :: aw)) B.pre w (List.mem_cons_of_mem _ h)
  have hown : s.vm.findClass RV = some m.cls := findClass_of_methodNamed B.named
  have hlocks := B.notSynchronized
  obtain ⟨hP, hK⟩ := hv
  obtain ⟨H, hH⟩ : ∃ H, H = s.heap := ⟨_, rfl⟩
  rw [← hH] at hP ⊢
  have hl := lv_entry ([.ref x, .int pp, .int kk]) (n := 3) (Nat.le_of_ble_eq_true rfl)
  rw [lg_entry_eq]
  generalize (lg_sl ([.ref x, .int pp, .int kk]) ++ List.replicate (3 - (lg_sl ([.ref x, .int pp, .int kk])).length) Slot.unset).toArray = ls at hl ⊢
  have hl : lv_has ls 3 [(0, .ref x), (1, .int pp), (2, .int kk)] := hl
  refine lv_iload_n (pc := 0) hx hb dV_hasRight_0 rfl (lv_at hl 1 rfl) ?_
  refine vp_callSi (pc := 1) (W.runS (As := [.int pp]) (rest := []) ⟨hx, hb, hml, hown, hts⟩ (v_isPerson l dC dI pp) (cwS 1 hts (gS wd_33 wd_34 wd_35 wd_32) rfl rfl rfl (by decide +kernel) ⟨Nat.le_of_ble_eq_true rfl, Nat.le_of_ble_eq_true rfl⟩) ⟨pR_blind, pR_pre (hP.sub (ws' := []) [] rfl) (hK.sub (tys' := []) [] rfl)⟩ rfl rfl hl.1 rfl (lv_room (Nat.le_of_ble_eq_true rfl)) dV_hasRight_1 ⟨Nat.le_of_ble_eq_true rfl, Nat.le_of_ble_eq_true rfl⟩) (fun r1 hr2 => ?_)
  obtain ⟨rfl, h3⟩ | ⟨rfl, h3⟩ : (r1 = 1 ∧ (¬ pp < 0 ∧ ¬ (16 : Int32) ≤ pp)) ∨ (r1 = 0 ∧ (pp < 0 ∨ (16 : Int32) ≤ pp)) := hr2
  · refine lv_if_eq (pc := 4) (tgt := 22) hx hb dV_hasRight_4 rfl (fun h4 => absurd h4 (by decide)) (fun h4 => ?_)
    refine lv_aload_n (pc := 7) hx hb dV_hasRight_7 rfl (lv_at hl 0 rfl) ?_
    refine va_get (D := (dC, dI)) (cl := kCl) (C := RV) (T := TV) (N := 9) (pc := 8) hx hb hts inV hown hK hP 0 rfl rfl 0 (by decide) (hts _ wd_36) (fun _ h9 => h9) rfl dV_hasRight_8 ?_
    refine lv_iload_n (pc := 11) hx hb dV_hasRight_11 rfl (lv_at hl 1 rfl) ?_
    refine va_iald (D := (dC, dI)) (cl := kCl) (pc := 12) hx hb hK hP 1 0 rfl rfl (vin_of (k := 16) (by decide) h3.1 h3.2) dV_hasRight_12 ?_
    refine W.eq (g2 := F0 m 13 ls [.int 0]) rfl ?_
    refine lv_iload_n (pc := 13) hx hb dV_hasRight_13 rfl (lv_at hl 2 rfl) ?_
    refine lv_iand (pc := 14) hx hb dV_hasRight_14 ?_
    refine lv_topi (fun z5 hz6 => ?_)
    obtain rfl : z5 = 0 := hz6.trans (Int32.zero_and)
    refine lv_if_eq (pc := 15) (tgt := 22) hx hb dV_hasRight_15 rfl (fun h7 => ?_) (fun h7 => absurd h7 (by decide))
    refine lv_iconst (pc := 22) (v := 0) hx hb dV_hasRight_22 (by decide) ?_
    exact W.zret (pc := 23) hx hb hr rfl (fun t ht hW => ⟨_, rfl, rfl, ht.trans hH⟩) (fun q h => nomatch h) dV_hasRight_23
  · refine lv_if_eq (pc := 4) (tgt := 22) hx hb dV_hasRight_4 rfl (fun h8 => ?_) (fun h8 => absurd h8 (by decide))
    refine lv_iconst (pc := 22) (v := 0) hx hb dV_hasRight_22 (by decide) ?_
    exact W.zret (pc := 23) hx hb hr rfl (fun t ht hW => ⟨_, rfl, rfl, ht.trans hH⟩) (fun q h => nomatch h) dV_hasRight_23
set_option maxHeartbeats 4000000 in
set_option maxRecDepth 100000 in
theorem v_needPower (l : Launch) (dC : Nat → ClassId) (dI : Nat → Nat → Nat) (x : Nat) (rt : Nat) (dr : Nat) (bs : Nat) (df : Nat) (ch : Nat) (pg : Nat) (rs : Int32) : Met l yV_needPower (.code yV_needPower cV_needPower 1 none :: aw) ({ frames := 0, cells := 0, slots := 0, locals := 0 }) (pR (dC, dI) [(x, .inr (0, [.ref rt, .ref dr, .int 0, .int 0, .ref bs, .ref df, .ref ch, .ref pg, .int rs])), (pg, .inr (3, [.int 400, .int 0, .int 0, .int 0, .int 0, .int 0]))] [] [.ref x]) (va_Sv (fun _ => True)) 0 0 (fun _ => False) := by
  refine Met.ofW (cc := cV_needPower) (maxL := 1) (ret := none) (by decide) rfl ?_
  intro p e s m args below meth c s₁ B hml hv
  obtain ⟨rfl, hv⟩ := hv
  have hx := B.exec
  have hb := B.bytes
  have hr := B.returns
  have hts : ∀ w ∈ aw, w.before _ s = true := fun w h => atoms_spec (ws := (.code yV_needPower cV_needPower 1 none :: aw)) B.pre w (List.mem_cons_of_mem _ h)
  have hown : s.vm.findClass RV = some m.cls := findClass_of_methodNamed B.named
  have hlocks := B.notSynchronized
  obtain ⟨hP, hK⟩ := hv
  obtain ⟨H, hH⟩ : ∃ H, H = s.heap := ⟨_, rfl⟩
  rw [← hH] at hP ⊢
  have hl := lv_entry ([.ref x]) (n := 1) (Nat.le_of_ble_eq_true rfl)
  rw [lg_entry_eq]
  generalize (lg_sl ([.ref x]) ++ List.replicate (1 - (lg_sl ([.ref x])).length) Slot.unset).toArray = ls at hl ⊢
  have hl : lv_has ls 1 [(0, .ref x)] := hl
  refine lv_aload_n (pc := 0) hx hb dV_needPower_0 rfl (lv_at hl 0 rfl) ?_
  refine va_get (D := (dC, dI)) (cl := kCl) (C := RV) (T := TV) (N := 9) (pc := 1) hx hb hts inV hown hK hP 0 rfl rfl 7 (by decide) (hts _ wd_37) (fun _ h9 => h9) rfl dV_needPower_1 ?_
  refine va_get (D := (dC, dI)) (cl := kCl) (C := RP) (T := TP) (N := 6) (pc := 4) hx hb hts inP hown hK hP 1 rfl rfl 3 (by decide) (hts _ wd_38) (fun _ h9 => h9) rfl dV_needPower_4 ?_
  refine lv_if_eq (pc := 7) (tgt := 18) hx hb dV_needPower_7 rfl (fun h1 => ?_) (fun h1 => absurd h1 (by decide))
  exact W.vret (pc := 18) hx hb hr (fun t ht hW => ⟨rfl, trivial, ht.trans hH⟩) (fun q h => nomatch h) dV_needPower_18
set_option maxHeartbeats 4000000 in
set_option maxRecDepth 100000 in
theorem v_drawingAt (l : Launch) (dC : Nat → ClassId) (dI : Nat → Nat → Nat) (x : Nat) (rt : Nat) (dr : Nat) (bs : Nat) (df : Nat) (ch : Nat) (pg : Nat) (rs : Int32) (dd : Int32) : Met l yV_drawingAt (.code yV_drawingAt cV_drawingAt 2 (some (.object "DrawingVault$Drawing")) :: aw) ({ frames := 0, cells := 0, slots := 0, locals := 0 }) (pR (dC, dI) [(x, .inr (0, [.ref rt, .ref dr, .int 0, .int 0, .ref bs, .ref df, .ref ch, .ref pg, .int rs]))] [] [.ref x, .int dd]) (va_Sq (fun r => r = none)) 0 0 (fun _ => False) := by
  refine Met.ofW (cc := cV_drawingAt) (maxL := 2) (ret := (some (.object "DrawingVault$Drawing"))) (by decide) rfl ?_
  intro p e s m args below meth c s₁ B hml hv
  obtain ⟨rfl, hv⟩ := hv
  have hx := B.exec
  have hb := B.bytes
  have hr := B.returns
  have hts : ∀ w ∈ aw, w.before _ s = true := fun w h => atoms_spec (ws := (.code yV_drawingAt cV_drawingAt 2 (some (.object "DrawingVault$Drawing")) :: aw)) B.pre w (List.mem_cons_of_mem _ h)
  have hown : s.vm.findClass RV = some m.cls := findClass_of_methodNamed B.named
  have hlocks := B.notSynchronized
  obtain ⟨hP, hK⟩ := hv
  obtain ⟨H, hH⟩ : ∃ H, H = s.heap := ⟨_, rfl⟩
  rw [← hH] at hP ⊢
  have hl := lv_entry ([.ref x, .int dd]) (n := 2) (Nat.le_of_ble_eq_true rfl)
  rw [lg_entry_eq]
  generalize (lg_sl ([.ref x, .int dd]) ++ List.replicate (2 - (lg_sl ([.ref x, .int dd])).length) Slot.unset).toArray = ls at hl ⊢
  have hl : lv_has ls 2 [(0, .ref x), (1, .int dd)] := hl
  refine lv_iload_n (pc := 0) hx hb dV_drawingAt_0 rfl (lv_at hl 1 rfl) ?_
  refine lv_if_lt (pc := 1) (tgt := 21) hx hb dV_drawingAt_1 rfl (fun h1 => ?_) (fun h1 => ?_)
  · refine lv_null (pc := 21) hx hb dV_drawingAt_21 ?_
    exact W.aret (pc := 22) hx hb hr (Or.inl ⟨_, rfl⟩) (Or.inl rfl) (fun t ht hW => ⟨none, rfl, rfl, ht.trans hH⟩) (fun q h => nomatch h) dV_drawingAt_22
  · refine lv_iload_n (pc := 4) hx hb dV_drawingAt_4 rfl (lv_at hl 1 rfl) ?_
    refine lv_aload_n (pc := 5) hx hb dV_drawingAt_5 rfl (lv_at hl 0 rfl) ?_
    refine va_get (D := (dC, dI)) (cl := kCl) (C := RV) (T := TV) (N := 9) (pc := 6) hx hb hts inV hown hK hP 0 rfl rfl 2 (by decide) (hts _ wd_39) (fun _ h9 => h9) rfl dV_drawingAt_6 ?_
    refine lv_icmp_ge (pc := 9) (tgt := 21) hx hb dV_drawingAt_9 rfl (fun h2 => ?_) (fun h2 => absurd (Int32.not_lt.mp h1) h2)
    refine lv_null (pc := 21) hx hb dV_drawingAt_21 ?_
    exact W.aret (pc := 22) hx hb hr (Or.inl ⟨_, rfl⟩) (Or.inl rfl) (fun t ht hW => ⟨none, rfl, rfl, ht.trans hH⟩) (fun q h => nomatch h) dV_drawingAt_22
set_option maxHeartbeats 4000000 in
set_option maxRecDepth 100000 in
theorem v_revisionAt (l : Launch) (dC : Nat → ClassId) (dI : Nat → Nat → Nat) (x : Nat) (rt : Nat) (dr : Nat) (bs : Nat) (df : Nat) (ch : Nat) (pg : Nat) (rs : Int32) (dd : Int32) (vv : Int32) : Met l yV_revisionAt (.code yV_revisionAt cV_revisionAt 4 (some (.object "DrawingVault$Revision")) :: aw) ({ frames := 1, cells := 0, slots := 0, locals := 21 }) (pR (dC, dI) [(x, .inr (0, [.ref rt, .ref dr, .int 0, .int 0, .ref bs, .ref df, .ref ch, .ref pg, .int rs]))] [] [.ref x, .int dd, .int vv]) (va_Sq (fun r => r = none)) 0 0 (fun _ => False) := by
  refine Met.ofW (cc := cV_revisionAt) (maxL := 4) (ret := (some (.object "DrawingVault$Revision"))) (by decide) rfl ?_
  intro p e s m args below meth c s₁ B hml hv
  obtain ⟨rfl, hv⟩ := hv
  have hx := B.exec
  have hb := B.bytes
  have hr := B.returns
  have hts : ∀ w ∈ aw, w.before _ s = true := fun w h => atoms_spec (ws := (.code yV_revisionAt cV_revisionAt 4 (some (.object "DrawingVault$Revision")) :: aw)) B.pre w (List.mem_cons_of_mem _ h)
  have hown : s.vm.findClass RV = some m.cls := findClass_of_methodNamed B.named
  have hlocks := B.notSynchronized
  obtain ⟨hP, hK⟩ := hv
  obtain ⟨H, hH⟩ : ∃ H, H = s.heap := ⟨_, rfl⟩
  rw [← hH] at hP ⊢
  have hl := lv_entry ([.ref x, .int dd, .int vv]) (n := 4) (Nat.le_of_ble_eq_true rfl)
  rw [lg_entry_eq]
  generalize (lg_sl ([.ref x, .int dd, .int vv]) ++ List.replicate (4 - (lg_sl ([.ref x, .int dd, .int vv])).length) Slot.unset).toArray = ls at hl ⊢
  have hl : lv_has ls 4 [(0, .ref x), (1, .int dd), (2, .int vv)] := hl
  refine lv_aload_n (pc := 0) hx hb dV_revisionAt_0 rfl (lv_at hl 0 rfl) ?_
  refine lv_iload_n (pc := 1) hx hb dV_revisionAt_1 rfl (lv_at hl 1 rfl) ?_
  refine va_csq (pc := 2) (W.runV (As := [.int dd]) (rest := []) ⟨hx, hb, hml, hown, hts⟩ (v_drawingAt l dC dI x rt dr bs df ch pg rs dd) (cwV 1 hts (gV wd_41 wd_42 wd_43 wd_35 wd_40) rfl rfl rfl (by decide +kernel) ⟨Nat.le_of_ble_eq_true rfl, Nat.le_of_ble_eq_true rfl⟩) ⟨pR_blind, va_recv (q := (RV, TV, 9)) (q0 := 0) (ci := 0) hK hP rfl rfl, pR_pre (hP.sub (ws' := [(x, .inr (0, [.ref rt, .ref dr, .int 0, .int 0, .ref bs, .ref df, .ref ch, .ref pg, .int rs]))]) [0] rfl) (hK.sub (tys' := []) [] rfl)⟩ rfl rfl hl.1 rfl (lv_room (Nat.le_of_ble_eq_true rfl)) dV_revisionAt_2 ⟨Nat.le_of_ble_eq_true rfl, Nat.le_of_ble_eq_true rfl⟩) (fun r1 hr2 => ?_)
  obtain rfl : r1 = none := hr2
  refine W.eq (g2 := F0 m 5 ls [.null]) rfl ?_
  refine lv_astore_nN (pc := 5) hx hb dV_revisionAt_5 rfl hl (by decide) rfl (fun ls hl => ?_)
  have hl : lv_has ls 4 [(3, .null), (0, .ref x), (1, .int dd), (2, .int vv)] := hl
  refine lv_aload_nN (pc := 6) hx hb dV_revisionAt_6 rfl (lv_at hl 0 rfl) ?_
  refine lv_ifnullN (pc := 7) (tgt := 27) hx hb dV_revisionAt_7 rfl ?_
  refine lv_null (pc := 27) hx hb dV_revisionAt_27 ?_
  exact W.aret (pc := 28) hx hb hr (Or.inl ⟨_, rfl⟩) (Or.inl rfl) (fun t ht hW => ⟨none, rfl, rfl, ht.trans hH⟩) (fun q h => nomatch h) dV_revisionAt_28
set_option maxHeartbeats 4000000 in
set_option maxRecDepth 100000 in
theorem v_baselineAt (l : Launch) (dC : Nat → ClassId) (dI : Nat → Nat → Nat) (x : Nat) (rt : Nat) (dr : Nat) (bs : Nat) (df : Nat) (ch : Nat) (pg : Nat) (rs : Int32) (cB : ClassId) (nn : Int32) : Met l yV_baselineAt (.code yV_baselineAt cV_baselineAt 2 (some (.object "DrawingVault$Baseline")) :: aw) ({ frames := 0, cells := 0, slots := 0, locals := 0 }) (pR (dC, dI) [(x, .inr (0, [.ref rt, .ref dr, .int 0, .int 0, .ref bs, .ref df, .ref ch, .ref pg, .int rs])), (bs, .inl (cB, 10, .inr (.inr (.inr (.inr (fun _ => none))))))] [(cB, .object "DrawingVault$Baseline")] [.ref x, .int nn]) (va_Sq (fun r => r = none)) 0 0 (fun _ => False) := by
  refine Met.ofW (cc := cV_baselineAt) (maxL := 2) (ret := (some (.object "DrawingVault$Baseline"))) (by decide) rfl ?_
  intro p e s m args below meth c s₁ B hml hv
  obtain ⟨rfl, hv⟩ := hv
  have hx := B.exec
  have hb := B.bytes
  have hr := B.returns
  have hts : ∀ w ∈ aw, w.before _ s = true := fun w h => atoms_spec (ws := (.code yV_baselineAt cV_baselineAt 2 (some (.object "DrawingVault$Baseline")) :: aw)) B.pre w (List.mem_cons_of_mem _ h)
  have hown : s.vm.findClass RV = some m.cls := findClass_of_methodNamed B.named
  have hlocks := B.notSynchronized
  obtain ⟨hP, hK⟩ := hv
  obtain ⟨H, hH⟩ : ∃ H, H = s.heap := ⟨_, rfl⟩
  rw [← hH] at hP ⊢
  have hl := lv_entry ([.ref x, .int nn]) (n := 2) (Nat.le_of_ble_eq_true rfl)
  rw [lg_entry_eq]
  generalize (lg_sl ([.ref x, .int nn]) ++ List.replicate (2 - (lg_sl ([.ref x, .int nn])).length) Slot.unset).toArray = ls at hl ⊢
  have hl : lv_has ls 2 [(0, .ref x), (1, .int nn)] := hl
  refine lv_iload_n (pc := 0) hx hb dV_baselineAt_0 rfl (lv_at hl 1 rfl) ?_
  refine lv_if_lt (pc := 1) (tgt := 19) hx hb dV_baselineAt_1 rfl (fun h1 => ?_) (fun h1 => ?_)
  · refine lv_null (pc := 19) hx hb dV_baselineAt_19 ?_
    exact W.aret (pc := 20) hx hb hr (Or.inl ⟨_, rfl⟩) (Or.inl rfl) (fun t ht hW => ⟨none, rfl, rfl, ht.trans hH⟩) (fun q h => nomatch h) dV_baselineAt_20
  · refine lv_iload_n (pc := 4) hx hb dV_baselineAt_4 rfl (lv_at hl 1 rfl) ?_
    refine lv_bipush (pc := 5) (v := 10) hx hb dV_baselineAt_5 (by decide) ?_
    refine lv_icmp_ge (pc := 7) (tgt := 19) hx hb dV_baselineAt_7 rfl (fun h2 => ?_) (fun h2 => ?_)
    · refine lv_null (pc := 19) hx hb dV_baselineAt_19 ?_
      exact W.aret (pc := 20) hx hb hr (Or.inl ⟨_, rfl⟩) (Or.inl rfl) (fun t ht hW => ⟨none, rfl, rfl, ht.trans hH⟩) (fun q h => nomatch h) dV_baselineAt_20
    · refine lv_aload_n (pc := 10) hx hb dV_baselineAt_10 rfl (lv_at hl 0 rfl) ?_
      refine va_get (D := (dC, dI)) (cl := kCl) (C := RV) (T := TV) (N := 9) (pc := 11) hx hb hts inV hown hK hP 0 rfl rfl 4 (by decide) (hts _ wd_44) (fun _ h9 => h9) rfl dV_baselineAt_11 ?_
      refine lv_iload_n (pc := 14) hx hb dV_baselineAt_14 rfl (lv_at hl 1 rfl) ?_
      refine va_aldq (D := (dC, dI)) (cl := kCl) (pc := 15) hx hb hK hP 1 0 rfl rfl (vin_of (k := 10) (by decide) h1 h2) dV_baselineAt_15 ?_
      refine W.eq (g2 := F0 m 16 ls [.null]) rfl ?_
      refine lv_goto (pc := 16) (tgt := 20) hx hb dV_baselineAt_16 rfl ?_
      exact W.aret (pc := 20) hx hb hr (Or.inl ⟨_, rfl⟩) (Or.inl rfl) (fun t ht hW => ⟨none, rfl, rfl, ht.trans hH⟩) (fun q h => nomatch h) dV_baselineAt_20
set_option maxHeartbeats 4000000 in
set_option maxRecDepth 100000 in
theorem v_outRefusal (l : Launch) (dC : Nat → ClassId) (dI : Nat → Nat → Nat) (x : Nat) (rt : Nat) (dr : Nat) (bs : Nat) (df : Nat) (ch : Nat) (pg : Nat) (rs : Int32) (cR : ClassId) (pp : Int32) : Met l yV_outRefusal (.code yV_outRefusal cV_outRefusal 3 (some .int) :: aw) ({ frames := 2, cells := 0, slots := 0, locals := 42 }) (pR (dC, dI) [(x, .inr (0, [.ref rt, .ref dr, .int 0, .int 0, .ref bs, .ref df, .ref ch, .ref pg, .int rs])), (rt, .inl (cR, 16, .inl (fun _ => 0)))] [(cR, .int)] [.ref x, .null, .int pp]) (vp_Si (fun r => r = 1)) 0 0 (fun _ => False) := by
  refine Met.ofW (cc := cV_outRefusal) (maxL := 3) (ret := (some .int)) (by decide) rfl ?_
  intro p e s m args below meth c s₁ B hml hv
  obtain ⟨rfl, hv⟩ := hv
  have hx := B.exec
  have hb := B.bytes
  have hr := B.returns
  have hts : ∀ w ∈ aw, w.before _ s = true := fun w h => atoms_spec (ws := (.code yV_outRefusal cV_outRefusal 3 (some .int) :: aw)) B.pre w (List.mem_cons_of_mem _ h)
  have hown : s.vm.findClass RV = some m.cls := findClass_of_methodNamed B.named
  have hlocks := B.notSynchronized
  obtain ⟨hP, hK⟩ := hv
  obtain ⟨H, hH⟩ : ∃ H, H = s.heap := ⟨_, rfl⟩
  rw [← hH] at hP ⊢
  have hl := lv_entry ([.ref x, .null, .int pp]) (n := 3) (Nat.le_of_ble_eq_true rfl)
  rw [lg_entry_eq]
  generalize (lg_sl ([.ref x, .null, .int pp]) ++ List.replicate (3 - (lg_sl ([.ref x, .null, .int pp])).length) Slot.unset).toArray = ls at hl ⊢
  have hl : lv_has ls 3 [(0, .ref x), (1, .null), (2, .int pp)] := hl
  refine lv_aload_n (pc := 0) hx hb dV_outRefusal_0 rfl (lv_at hl 0 rfl) ?_
  refine lv_iload_n (pc := 1) hx hb dV_outRefusal_1 rfl (lv_at hl 2 rfl) ?_
  refine lv_bipush (pc := 2) (v := 7) hx hb dV_outRefusal_2 (by decide) ?_
  refine vp_callSi (pc := 4) (W.runV (As := [.int pp, .int 7]) (rest := []) ⟨hx, hb, hml, hown, hts⟩ (v_hasRight l dC dI x rt dr bs df ch pg rs cR pp 7) (cwV 2 hts (gV wd_46 wd_47 wd_48 wd_35 wd_45) rfl rfl rfl (by decide +kernel) ⟨Nat.le_of_ble_eq_true rfl, Nat.le_of_ble_eq_true rfl⟩) ⟨pR_blind, va_recv (q := (RV, TV, 9)) (q0 := 0) (ci := 0) hK hP rfl rfl, pR_pre (hP.sub (ws' := [(x, .inr (0, [.ref rt, .ref dr, .int 0, .int 0, .ref bs, .ref df, .ref ch, .ref pg, .int rs])), (rt, .inl (cR, 16, .inl (fun _ => 0)))]) [0, 1] rfl) (hK.sub (tys' := [(cR, .int)]) [0] rfl)⟩ rfl rfl hl.1 rfl (lv_room (Nat.le_of_ble_eq_true rfl)) dV_outRefusal_4 ⟨Nat.le_of_ble_eq_true rfl, Nat.le_of_ble_eq_true rfl⟩) (fun r1 hr2 => ?_)
  obtain rfl : r1 = 0 := hr2
  refine lv_if_ne (pc := 7) (tgt := 12) hx hb dV_outRefusal_7 rfl (fun h3 => absurd h3 (by decide)) (fun h3 => ?_)
  refine lv_iconst (pc := 10) (v := 1) hx hb dV_outRefusal_10 (by decide) ?_
  exact W.iret (pc := 11) hx hb hr (fun t ht hW => ⟨_, rfl, rfl, ht.trans hH⟩) (fun q h => nomatch h) dV_outRefusal_11
set_option maxHeartbeats 4000000 in
set_option maxRecDepth 100000 in
theorem v_copyRefusal (l : Launch) (dC : Nat → ClassId) (dI : Nat → Nat → Nat) (x : Nat) (rt : Nat) (dr : Nat) (bs : Nat) (df : Nat) (ch : Nat) (pg : Nat) (rs : Int32) (cR : ClassId) (pp : Int32) : Met l yV_copyRefusal (.code yV_copyRefusal cV_copyRefusal 3 (some .int) :: aw) ({ frames := 2, cells := 0, slots := 0, locals := 42 }) (pR (dC, dI) [(x, .inr (0, [.ref rt, .ref dr, .int 0, .int 0, .ref bs, .ref df, .ref ch, .ref pg, .int rs])), (rt, .inl (cR, 16, .inl (fun _ => 0)))] [(cR, .int)] [.ref x, .null, .int pp]) (vp_Si (fun r => r = 1)) 0 0 (fun _ => False) := by
  refine Met.ofW (cc := cV_copyRefusal) (maxL := 3) (ret := (some .int)) (by decide) rfl ?_
  intro p e s m args below meth c s₁ B hml hv
  obtain ⟨rfl, hv⟩ := hv
  have hx := B.exec
  have hb := B.bytes
  have hr := B.returns
  have hts : ∀ w ∈ aw, w.before _ s = true := fun w h => atoms_spec (ws := (.code yV_copyRefusal cV_copyRefusal 3 (some .int) :: aw)) B.pre w (List.mem_cons_of_mem _ h)
  have hown : s.vm.findClass RV = some m.cls := findClass_of_methodNamed B.named
  have hlocks := B.notSynchronized
  obtain ⟨hP, hK⟩ := hv
  obtain ⟨H, hH⟩ : ∃ H, H = s.heap := ⟨_, rfl⟩
  rw [← hH] at hP ⊢
  have hl := lv_entry ([.ref x, .null, .int pp]) (n := 3) (Nat.le_of_ble_eq_true rfl)
  rw [lg_entry_eq]
  generalize (lg_sl ([.ref x, .null, .int pp]) ++ List.replicate (3 - (lg_sl ([.ref x, .null, .int pp])).length) Slot.unset).toArray = ls at hl ⊢
  have hl : lv_has ls 3 [(0, .ref x), (1, .null), (2, .int pp)] := hl
  refine lv_aload_n (pc := 0) hx hb dV_copyRefusal_0 rfl (lv_at hl 0 rfl) ?_
  refine lv_iload_n (pc := 1) hx hb dV_copyRefusal_1 rfl (lv_at hl 2 rfl) ?_
  refine lv_bipush (pc := 2) (v := 7) hx hb dV_copyRefusal_2 (by decide) ?_
  refine vp_callSi (pc := 4) (W.runV (As := [.int pp, .int 7]) (rest := []) ⟨hx, hb, hml, hown, hts⟩ (v_hasRight l dC dI x rt dr bs df ch pg rs cR pp 7) (cwV 2 hts (gV wd_46 wd_47 wd_48 wd_35 wd_45) rfl rfl rfl (by decide +kernel) ⟨Nat.le_of_ble_eq_true rfl, Nat.le_of_ble_eq_true rfl⟩) ⟨pR_blind, va_recv (q := (RV, TV, 9)) (q0 := 0) (ci := 0) hK hP rfl rfl, pR_pre (hP.sub (ws' := [(x, .inr (0, [.ref rt, .ref dr, .int 0, .int 0, .ref bs, .ref df, .ref ch, .ref pg, .int rs])), (rt, .inl (cR, 16, .inl (fun _ => 0)))]) [0, 1] rfl) (hK.sub (tys' := [(cR, .int)]) [0] rfl)⟩ rfl rfl hl.1 rfl (lv_room (Nat.le_of_ble_eq_true rfl)) dV_copyRefusal_4 ⟨Nat.le_of_ble_eq_true rfl, Nat.le_of_ble_eq_true rfl⟩) (fun r1 hr2 => ?_)
  obtain rfl : r1 = 0 := hr2
  refine lv_if_ne (pc := 7) (tgt := 12) hx hb dV_copyRefusal_7 rfl (fun h3 => absurd h3 (by decide)) (fun h3 => ?_)
  refine lv_iconst (pc := 10) (v := 1) hx hb dV_copyRefusal_10 (by decide) ?_
  exact W.iret (pc := 11) hx hb hr (fun t ht hW => ⟨_, rfl, rfl, ht.trans hH⟩) (fun q h => nomatch h) dV_copyRefusal_11
set_option maxHeartbeats 4000000 in
set_option maxRecDepth 100000 in
theorem v_drawingRefusal (l : Launch) (dC : Nat → ClassId) (dI : Nat → Nat → Nat) (x : Nat) (rt : Nat) (dr : Nat) (bs : Nat) (df : Nat) (ch : Nat) (pg : Nat) (rs : Int32) (cR : ClassId) (pp : Int32) : Met l yV_drawingRefusal (.code yV_drawingRefusal cV_drawingRefusal 3 (some .int) :: aw) ({ frames := 2, cells := 0, slots := 0, locals := 42 }) (pR (dC, dI) [(x, .inr (0, [.ref rt, .ref dr, .int 0, .int 0, .ref bs, .ref df, .ref ch, .ref pg, .int rs])), (rt, .inl (cR, 16, .inl (fun _ => 0)))] [(cR, .int)] [.ref x, .int pp]) (vp_Si (fun r => r = 1)) 0 0 (fun _ => False) := by
  refine Met.ofW (cc := cV_drawingRefusal) (maxL := 3) (ret := (some .int)) (by decide) rfl ?_
  intro p e s m args below meth c s₁ B hml hv
  obtain ⟨rfl, hv⟩ := hv
  have hx := B.exec
  have hb := B.bytes
  have hr := B.returns
  have hts : ∀ w ∈ aw, w.before _ s = true := fun w h => atoms_spec (ws := (.code yV_drawingRefusal cV_drawingRefusal 3 (some .int) :: aw)) B.pre w (List.mem_cons_of_mem _ h)
  have hown : s.vm.findClass RV = some m.cls := findClass_of_methodNamed B.named
  have hlocks := B.notSynchronized
  obtain ⟨hP, hK⟩ := hv
  obtain ⟨H, hH⟩ : ∃ H, H = s.heap := ⟨_, rfl⟩
  rw [← hH] at hP ⊢
  have hl := lv_entry ([.ref x, .int pp]) (n := 3) (Nat.le_of_ble_eq_true rfl)
  rw [lg_entry_eq]
  generalize (lg_sl ([.ref x, .int pp]) ++ List.replicate (3 - (lg_sl ([.ref x, .int pp])).length) Slot.unset).toArray = ls at hl ⊢
  have hl : lv_has ls 3 [(0, .ref x), (1, .int pp)] := hl
  refine lv_aload_n (pc := 0) hx hb dV_drawingRefusal_0 rfl (lv_at hl 0 rfl) ?_
  refine lv_iload_n (pc := 1) hx hb dV_drawingRefusal_1 rfl (lv_at hl 1 rfl) ?_
  refine lv_iconst (pc := 2) (v := 1) hx hb dV_drawingRefusal_2 (by decide) ?_
  refine vp_callSi (pc := 3) (W.runV (As := [.int pp, .int 1]) (rest := []) ⟨hx, hb, hml, hown, hts⟩ (v_hasRight l dC dI x rt dr bs df ch pg rs cR pp 1) (cwV 2 hts (gV wd_46 wd_47 wd_48 wd_35 wd_45) rfl rfl rfl (by decide +kernel) ⟨Nat.le_of_ble_eq_true rfl, Nat.le_of_ble_eq_true rfl⟩) ⟨pR_blind, va_recv (q := (RV, TV, 9)) (q0 := 0) (ci := 0) hK hP rfl rfl, pR_pre (hP.sub (ws' := [(x, .inr (0, [.ref rt, .ref dr, .int 0, .int 0, .ref bs, .ref df, .ref ch, .ref pg, .int rs])), (rt, .inl (cR, 16, .inl (fun _ => 0)))]) [0, 1] rfl) (hK.sub (tys' := [(cR, .int)]) [0] rfl)⟩ rfl rfl hl.1 rfl (lv_room (Nat.le_of_ble_eq_true rfl)) dV_drawingRefusal_3 ⟨Nat.le_of_ble_eq_true rfl, Nat.le_of_ble_eq_true rfl⟩) (fun r1 hr2 => ?_)
  obtain rfl : r1 = 0 := hr2
  refine lv_if_ne (pc := 6) (tgt := 11) hx hb dV_drawingRefusal_6 rfl (fun h3 => absurd h3 (by decide)) (fun h3 => ?_)
  refine lv_iconst (pc := 9) (v := 1) hx hb dV_drawingRefusal_9 (by decide) ?_
  exact W.iret (pc := 10) hx hb hr (fun t ht hW => ⟨_, rfl, rfl, ht.trans hH⟩) (fun q h => nomatch h) dV_drawingRefusal_10
set_option maxHeartbeats 4000000 in
set_option maxRecDepth 100000 in
theorem v_checkRefusal (l : Launch) (dC : Nat → ClassId) (dI : Nat → Nat → Nat) (x : Nat) (rt : Nat) (dr : Nat) (bs : Nat) (df : Nat) (ch : Nat) (pg : Nat) (rs : Int32) (cR : ClassId) (dd : Int32) (vv : Int32) (pp : Int32) : Met l yV_checkRefusal (.code yV_checkRefusal cV_checkRefusal 6 (some .int) :: aw) ({ frames := 2, cells := 0, slots := 0, locals := 44 }) (pR (dC, dI) [(x, .inr (0, [.ref rt, .ref dr, .int 0, .int 0, .ref bs, .ref df, .ref ch, .ref pg, .int rs])), (rt, .inl (cR, 16, .inl (fun _ => 0)))] [(cR, .int)] [.ref x, .int dd, .int vv, .int pp]) (vp_Si (fun r => r = 1)) 0 0 (fun _ => False) := by
  refine Met.ofW (cc := cV_checkRefusal) (maxL := 6) (ret := (some .int)) (by decide) rfl ?_
  intro p e s m args below meth c s₁ B hml hv
  obtain ⟨rfl, hv⟩ := hv
  have hx := B.exec
  have hb := B.bytes
  have hr := B.returns
  have hts : ∀ w ∈ aw, w.before _ s = true := fun w h => atoms_spec (ws := (.code yV_checkRefusal cV_checkRefusal 6 (some .int) :: aw)) B.pre w (List.mem_cons_of_mem _ h)
  have hown : s.vm.findClass RV = some m.cls := findClass_of_methodNamed B.named
  have hlocks := B.notSynchronized
  obtain ⟨hP, hK⟩ := hv
  obtain ⟨H, hH⟩ : ∃ H, H = s.heap := ⟨_, rfl⟩
  rw [← hH] at hP ⊢
  have hl := lv_entry ([.ref x, .int dd, .int vv, .int pp]) (n := 6) (Nat.le_of_ble_eq_true rfl)
  rw [lg_entry_eq]
  generalize (lg_sl ([.ref x, .int dd, .int vv, .int pp]) ++ List.replicate (6 - (lg_sl ([.ref x, .int dd, .int vv, .int pp])).length) Slot.unset).toArray = ls at hl ⊢
  have hl : lv_has ls 6 [(0, .ref x), (1, .int dd), (2, .int vv), (3, .int pp)] := hl
  refine lv_aload_n (pc := 0) hx hb dV_checkRefusal_0 rfl (lv_at hl 0 rfl) ?_
  refine lv_iload_n (pc := 1) hx hb dV_checkRefusal_1 rfl (lv_at hl 1 rfl) ?_
  refine va_csq (pc := 2) (W.runV (As := [.int dd]) (rest := []) ⟨hx, hb, hml, hown, hts⟩ (v_drawingAt l dC dI x rt dr bs df ch pg rs dd) (cwV 1 hts (gV wd_41 wd_42 wd_43 wd_35 wd_40) rfl rfl rfl (by decide +kernel) ⟨Nat.le_of_ble_eq_true rfl, Nat.le_of_ble_eq_true rfl⟩) ⟨pR_blind, va_recv (q := (RV, TV, 9)) (q0 := 0) (ci := 0) hK hP rfl rfl, pR_pre (hP.sub (ws' := [(x, .inr (0, [.ref rt, .ref dr, .int 0, .int 0, .ref bs, .ref df, .ref ch, .ref pg, .int rs]))]) [0] rfl) (hK.sub (tys' := []) [] rfl)⟩ rfl rfl hl.1 rfl (lv_room (Nat.le_of_ble_eq_true rfl)) dV_checkRefusal_2 ⟨Nat.le_of_ble_eq_true rfl, Nat.le_of_ble_eq_true rfl⟩) (fun r1 hr2 => ?_)
  obtain rfl : r1 = none := hr2
  refine W.eq (g2 := F0 m 5 ls [.null]) rfl ?_
  refine lv_astoreN (pc := 5) hx hb dV_checkRefusal_5 hl (by decide) rfl (fun ls hl => ?_)
  have hl : lv_has ls 6 [(4, .null), (0, .ref x), (1, .int dd), (2, .int vv), (3, .int pp)] := hl
  refine lv_aload_n (pc := 7) hx hb dV_checkRefusal_7 rfl (lv_at hl 1 rfl) ?_
  refine lv_iload_n (pc := 8) hx hb dV_checkRefusal_8 rfl (lv_at hl 2 rfl) ?_
  refine lv_iload_n (pc := 9) hx hb dV_checkRefusal_9 rfl (lv_at hl 3 rfl) ?_
  refine va_csq (pc := 10) (W.runV (As := [.int dd, .int vv]) (rest := []) ⟨hx, hb, hml, hown, hts⟩ (v_revisionAt l dC dI x rt dr bs df ch pg rs dd vv) (cwV 2 hts (gV wd_50 wd_51 wd_52 wd_35 wd_49) rfl rfl rfl (by decide +kernel) ⟨Nat.le_of_ble_eq_true rfl, Nat.le_of_ble_eq_true rfl⟩) ⟨pR_blind, va_recv (q := (RV, TV, 9)) (q0 := 0) (ci := 0) hK hP rfl rfl, pR_pre (hP.sub (ws' := [(x, .inr (0, [.ref rt, .ref dr, .int 0, .int 0, .ref bs, .ref df, .ref ch, .ref pg, .int rs]))]) [0] rfl) (hK.sub (tys' := []) [] rfl)⟩ rfl rfl hl.1 rfl (lv_room (Nat.le_of_ble_eq_true rfl)) dV_checkRefusal_10 ⟨Nat.le_of_ble_eq_true rfl, Nat.le_of_ble_eq_true rfl⟩) (fun r3 hr4 => ?_)
  obtain rfl : r3 = none := hr4
  refine W.eq (g2 := F0 m 13 ls [.null]) rfl ?_
  refine lv_astoreN (pc := 13) hx hb dV_checkRefusal_13 hl (by decide) rfl (fun ls hl => ?_)
  have hl : lv_has ls 6 [(5, .null), (4, .null), (0, .ref x), (1, .int dd), (2, .int vv), (3, .int pp)] := hl
  refine lv_aload_n (pc := 15) hx hb dV_checkRefusal_15 rfl (lv_at hl 2 rfl) ?_
  refine lv_iload_n (pc := 16) hx hb dV_checkRefusal_16 rfl (lv_at hl 5 rfl) ?_
  refine lv_iconst (pc := 17) (v := 2) hx hb dV_checkRefusal_17 (by decide) ?_
  refine vp_callSi (pc := 18) (W.runV (As := [.int pp, .int 2]) (rest := []) ⟨hx, hb, hml, hown, hts⟩ (v_hasRight l dC dI x rt dr bs df ch pg rs cR pp 2) (cwV 2 hts (gV wd_46 wd_47 wd_48 wd_35 wd_45) rfl rfl rfl (by decide +kernel) ⟨Nat.le_of_ble_eq_true rfl, Nat.le_of_ble_eq_true rfl⟩) ⟨pR_blind, va_recv (q := (RV, TV, 9)) (q0 := 0) (ci := 0) hK hP rfl rfl, pR_pre (hP.sub (ws' := [(x, .inr (0, [.ref rt, .ref dr, .int 0, .int 0, .ref bs, .ref df, .ref ch, .ref pg, .int rs])), (rt, .inl (cR, 16, .inl (fun _ => 0)))]) [0, 1] rfl) (hK.sub (tys' := [(cR, .int)]) [0] rfl)⟩ rfl rfl hl.1 rfl (lv_room (Nat.le_of_ble_eq_true rfl)) dV_checkRefusal_18 ⟨Nat.le_of_ble_eq_true rfl, Nat.le_of_ble_eq_true rfl⟩) (fun r5 hr6 => ?_)
  obtain rfl : r5 = 0 := hr6
  refine lv_if_ne (pc := 21) (tgt := 26) hx hb dV_checkRefusal_21 rfl (fun h7 => absurd h7 (by decide)) (fun h7 => ?_)
  refine lv_iconst (pc := 24) (v := 1) hx hb dV_checkRefusal_24 (by decide) ?_
  exact W.iret (pc := 25) hx hb hr (fun t ht hW => ⟨_, rfl, rfl, ht.trans hH⟩) (fun q h => nomatch h) dV_checkRefusal_25
set_option maxHeartbeats 4000000 in
set_option maxRecDepth 100000 in
theorem v_releaseRefusal (l : Launch) (dC : Nat → ClassId) (dI : Nat → Nat → Nat) (x : Nat) (rt : Nat) (dr : Nat) (bs : Nat) (df : Nat) (ch : Nat) (pg : Nat) (rs : Int32) (cR : ClassId) (dd : Int32) (vv : Int32) (pp : Int32) : Met l yV_releaseRefusal (.code yV_releaseRefusal cV_releaseRefusal 5 (some .int) :: aw) ({ frames := 2, cells := 0, slots := 0, locals := 44 }) (pR (dC, dI) [(x, .inr (0, [.ref rt, .ref dr, .int 0, .int 0, .ref bs, .ref df, .ref ch, .ref pg, .int rs])), (rt, .inl (cR, 16, .inl (fun _ => 0)))] [(cR, .int)] [.ref x, .int dd, .int vv, .int pp]) (vp_Si (fun r => r = 1)) 0 0 (fun _ => False) := by
  refine Met.ofW (cc := cV_releaseRefusal) (maxL := 5) (ret := (some .int)) (by decide) rfl ?_
  intro p e s m args below meth c s₁ B hml hv
  obtain ⟨rfl, hv⟩ := hv
  have hx := B.exec
  have hb := B.bytes
  have hr := B.returns
  have hts : ∀ w ∈ aw, w.before _ s = true := fun w h => atoms_spec (ws := (.code yV_releaseRefusal cV_releaseRefusal 5 (some .int) :: aw)) B.pre w (List.mem_cons_of_mem _ h)
  have hown : s.vm.findClass RV = some m.cls := findClass_of_methodNamed B.named
  have hlocks := B.notSynchronized
  obtain ⟨hP, hK⟩ := hv
  obtain ⟨H, hH⟩ : ∃ H, H = s.heap := ⟨_, rfl⟩
  rw [← hH] at hP ⊢
  have hl := lv_entry ([.ref x, .int dd, .int vv, .int pp]) (n := 5) (Nat.le_of_ble_eq_true rfl)
  rw [lg_entry_eq]
  generalize (lg_sl ([.ref x, .int dd, .int vv, .int pp]) ++ List.replicate (5 - (lg_sl ([.ref x, .int dd, .int vv, .int pp])).length) Slot.unset).toArray = ls at hl ⊢
  have hl : lv_has ls 5 [(0, .ref x), (1, .int dd), (2, .int vv), (3, .int pp)] := hl
  refine lv_aload_n (pc := 0) hx hb dV_releaseRefusal_0 rfl (lv_at hl 0 rfl) ?_
  refine lv_iload_n (pc := 1) hx hb dV_releaseRefusal_1 rfl (lv_at hl 1 rfl) ?_
  refine lv_iload_n (pc := 2) hx hb dV_releaseRefusal_2 rfl (lv_at hl 2 rfl) ?_
  refine va_csq (pc := 3) (W.runV (As := [.int dd, .int vv]) (rest := []) ⟨hx, hb, hml, hown, hts⟩ (v_revisionAt l dC dI x rt dr bs df ch pg rs dd vv) (cwV 2 hts (gV wd_50 wd_51 wd_52 wd_35 wd_49) rfl rfl rfl (by decide +kernel) ⟨Nat.le_of_ble_eq_true rfl, Nat.le_of_ble_eq_true rfl⟩) ⟨pR_blind, va_recv (q := (RV, TV, 9)) (q0 := 0) (ci := 0) hK hP rfl rfl, pR_pre (hP.sub (ws' := [(x, .inr (0, [.ref rt, .ref dr, .int 0, .int 0, .ref bs, .ref df, .ref ch, .ref pg, .int rs]))]) [0] rfl) (hK.sub (tys' := []) [] rfl)⟩ rfl rfl hl.1 rfl (lv_room (Nat.le_of_ble_eq_true rfl)) dV_releaseRefusal_3 ⟨Nat.le_of_ble_eq_true rfl, Nat.le_of_ble_eq_true rfl⟩) (fun r1 hr2 => ?_)
  obtain rfl : r1 = none := hr2
  refine W.eq (g2 := F0 m 6 ls [.null]) rfl ?_
  refine lv_astoreN (pc := 6) hx hb dV_releaseRefusal_6 hl (by decide) rfl (fun ls hl => ?_)
  have hl : lv_has ls 5 [(4, .null), (0, .ref x), (1, .int dd), (2, .int vv), (3, .int pp)] := hl
  refine lv_aload_n (pc := 8) hx hb dV_releaseRefusal_8 rfl (lv_at hl 1 rfl) ?_
  refine lv_iload_n (pc := 9) hx hb dV_releaseRefusal_9 rfl (lv_at hl 4 rfl) ?_
  refine lv_iconst (pc := 10) (v := 4) hx hb dV_releaseRefusal_10 (by decide) ?_
  refine vp_callSi (pc := 11) (W.runV (As := [.int pp, .int 4]) (rest := []) ⟨hx, hb, hml, hown, hts⟩ (v_hasRight l dC dI x rt dr bs df ch pg rs cR pp 4) (cwV 2 hts (gV wd_46 wd_47 wd_48 wd_35 wd_45) rfl rfl rfl (by decide +kernel) ⟨Nat.le_of_ble_eq_true rfl, Nat.le_of_ble_eq_true rfl⟩) ⟨pR_blind, va_recv (q := (RV, TV, 9)) (q0 := 0) (ci := 0) hK hP rfl rfl, pR_pre (hP.sub (ws' := [(x, .inr (0, [.ref rt, .ref dr, .int 0, .int 0, .ref bs, .ref df, .ref ch, .ref pg, .int rs])), (rt, .inl (cR, 16, .inl (fun _ => 0)))]) [0, 1] rfl) (hK.sub (tys' := [(cR, .int)]) [0] rfl)⟩ rfl rfl hl.1 rfl (lv_room (Nat.le_of_ble_eq_true rfl)) dV_releaseRefusal_11 ⟨Nat.le_of_ble_eq_true rfl, Nat.le_of_ble_eq_true rfl⟩) (fun r3 hr4 => ?_)
  obtain rfl : r3 = 0 := hr4
  refine lv_if_ne (pc := 14) (tgt := 19) hx hb dV_releaseRefusal_14 rfl (fun h5 => absurd h5 (by decide)) (fun h5 => ?_)
  refine lv_iconst (pc := 17) (v := 1) hx hb dV_releaseRefusal_17 (by decide) ?_
  exact W.iret (pc := 18) hx hb hr (fun t ht hW => ⟨_, rfl, rfl, ht.trans hH⟩) (fun q h => nomatch h) dV_releaseRefusal_18
set_option maxHeartbeats 4000000 in
set_option maxRecDepth 100000 in
theorem v_withdrawRefusal (l : Launch) (dC : Nat → ClassId) (dI : Nat → Nat → Nat) (x : Nat) (rt : Nat) (dr : Nat) (bs : Nat) (df : Nat) (ch : Nat) (pg : Nat) (rs : Int32) (cR : ClassId) (dd : Int32) (vv : Int32) (pp : Int32) : Met l yV_withdrawRefusal (.code yV_withdrawRefusal cV_withdrawRefusal 6 (some .int) :: aw) ({ frames := 2, cells := 0, slots := 0, locals := 44 }) (pR (dC, dI) [(x, .inr (0, [.ref rt, .ref dr, .int 0, .int 0, .ref bs, .ref df, .ref ch, .ref pg, .int rs])), (rt, .inl (cR, 16, .inl (fun _ => 0)))] [(cR, .int)] [.ref x, .int dd, .int vv, .int pp]) (vp_Si (fun r => r = 1)) 0 0 (fun _ => False) := by
  refine Met.ofW (cc := cV_withdrawRefusal) (maxL := 6) (ret := (some .int)) (by decide) rfl ?_
  intro p e s m args below meth c s₁ B hml hv
  obtain ⟨rfl, hv⟩ := hv
  have hx := B.exec
  have hb := B.bytes
  have hr := B.returns
  have hts : ∀ w ∈ aw, w.before _ s = true := fun w h => atoms_spec (ws := (.code yV_withdrawRefusal cV_withdrawRefusal 6 (some .int) :: aw)) B.pre w (List.mem_cons_of_mem _ h)
  have hown : s.vm.findClass RV = some m.cls := findClass_of_methodNamed B.named
  have hlocks := B.notSynchronized
  obtain ⟨hP, hK⟩ := hv
  obtain ⟨H, hH⟩ : ∃ H, H = s.heap := ⟨_, rfl⟩
  rw [← hH] at hP ⊢
  have hl := lv_entry ([.ref x, .int dd, .int vv, .int pp]) (n := 6) (Nat.le_of_ble_eq_true rfl)
  rw [lg_entry_eq]
  generalize (lg_sl ([.ref x, .int dd, .int vv, .int pp]) ++ List.replicate (6 - (lg_sl ([.ref x, .int dd, .int vv, .int pp])).length) Slot.unset).toArray = ls at hl ⊢
  have hl : lv_has ls 6 [(0, .ref x), (1, .int dd), (2, .int vv), (3, .int pp)] := hl
  refine lv_aload_n (pc := 0) hx hb dV_withdrawRefusal_0 rfl (lv_at hl 0 rfl) ?_
  refine lv_iload_n (pc := 1) hx hb dV_withdrawRefusal_1 rfl (lv_at hl 1 rfl) ?_
  refine lv_iload_n (pc := 2) hx hb dV_withdrawRefusal_2 rfl (lv_at hl 2 rfl) ?_
  refine va_csq (pc := 3) (W.runV (As := [.int dd, .int vv]) (rest := []) ⟨hx, hb, hml, hown, hts⟩ (v_revisionAt l dC dI x rt dr bs df ch pg rs dd vv) (cwV 2 hts (gV wd_50 wd_51 wd_52 wd_35 wd_49) rfl rfl rfl (by decide +kernel) ⟨Nat.le_of_ble_eq_true rfl, Nat.le_of_ble_eq_true rfl⟩) ⟨pR_blind, va_recv (q := (RV, TV, 9)) (q0 := 0) (ci := 0) hK hP rfl rfl, pR_pre (hP.sub (ws' := [(x, .inr (0, [.ref rt, .ref dr, .int 0, .int 0, .ref bs, .ref df, .ref ch, .ref pg, .int rs]))]) [0] rfl) (hK.sub (tys' := []) [] rfl)⟩ rfl rfl hl.1 rfl (lv_room (Nat.le_of_ble_eq_true rfl)) dV_withdrawRefusal_3 ⟨Nat.le_of_ble_eq_true rfl, Nat.le_of_ble_eq_true rfl⟩) (fun r1 hr2 => ?_)
  obtain rfl : r1 = none := hr2
  refine W.eq (g2 := F0 m 6 ls [.null]) rfl ?_
  refine lv_astoreN (pc := 6) hx hb dV_withdrawRefusal_6 hl (by decide) rfl (fun ls hl => ?_)
  have hl : lv_has ls 6 [(4, .null), (0, .ref x), (1, .int dd), (2, .int vv), (3, .int pp)] := hl
  refine lv_aload_n (pc := 8) hx hb dV_withdrawRefusal_8 rfl (lv_at hl 1 rfl) ?_
  refine lv_iload_n (pc := 9) hx hb dV_withdrawRefusal_9 rfl (lv_at hl 4 rfl) ?_
  refine lv_iconst (pc := 10) (v := 4) hx hb dV_withdrawRefusal_10 (by decide) ?_
  refine vp_callSi (pc := 11) (W.runV (As := [.int pp, .int 4]) (rest := []) ⟨hx, hb, hml, hown, hts⟩ (v_hasRight l dC dI x rt dr bs df ch pg rs cR pp 4) (cwV 2 hts (gV wd_46 wd_47 wd_48 wd_35 wd_45) rfl rfl rfl (by decide +kernel) ⟨Nat.le_of_ble_eq_true rfl, Nat.le_of_ble_eq_true rfl⟩) ⟨pR_blind, va_recv (q := (RV, TV, 9)) (q0 := 0) (ci := 0) hK hP rfl rfl, pR_pre (hP.sub (ws' := [(x, .inr (0, [.ref rt, .ref dr, .int 0, .int 0, .ref bs, .ref df, .ref ch, .ref pg, .int rs])), (rt, .inl (cR, 16, .inl (fun _ => 0)))]) [0, 1] rfl) (hK.sub (tys' := [(cR, .int)]) [0] rfl)⟩ rfl rfl hl.1 rfl (lv_room (Nat.le_of_ble_eq_true rfl)) dV_withdrawRefusal_11 ⟨Nat.le_of_ble_eq_true rfl, Nat.le_of_ble_eq_true rfl⟩) (fun r3 hr4 => ?_)
  obtain rfl : r3 = 0 := hr4
  refine lv_if_ne (pc := 14) (tgt := 19) hx hb dV_withdrawRefusal_14 rfl (fun h5 => absurd h5 (by decide)) (fun h5 => ?_)
  refine lv_iconst (pc := 17) (v := 1) hx hb dV_withdrawRefusal_17 (by decide) ?_
  exact W.iret (pc := 18) hx hb hr (fun t ht hW => ⟨_, rfl, rfl, ht.trans hH⟩) (fun q h => nomatch h) dV_withdrawRefusal_18
set_option maxHeartbeats 4000000 in
set_option maxRecDepth 100000 in
theorem v_why (l : Launch) (dC : Nat → ClassId) (dI : Nat → Nat → Nat) (x : Nat) (rt : Nat) (dr : Nat) (bs : Nat) (df : Nat) (ch : Nat) (pg : Nat) (rs : Int32) : Met l yV_why (.code yV_why cV_why 1 (some .int) :: aw) ({ frames := 0, cells := 0, slots := 0, locals := 0 }) (pR (dC, dI) [(x, .inr (0, [.ref rt, .ref dr, .int 0, .int 0, .ref bs, .ref df, .ref ch, .ref pg, .int rs]))] [] [.ref x]) (vp_Si (fun r => r = rs)) 0 0 (fun _ => False) := by
  refine Met.ofW (cc := cV_why) (maxL := 1) (ret := (some .int)) (by decide) rfl ?_
  intro p e s m args below meth c s₁ B hml hv
  obtain ⟨rfl, hv⟩ := hv
  have hx := B.exec
  have hb := B.bytes
  have hr := B.returns
  have hts : ∀ w ∈ aw, w.before _ s = true := fun w h => atoms_spec (ws := (.code yV_why cV_why 1 (some .int) :: aw)) B.pre w (List.mem_cons_of_mem _ h)
  have hown : s.vm.findClass RV = some m.cls := findClass_of_methodNamed B.named
  have hlocks := B.notSynchronized
  obtain ⟨hP, hK⟩ := hv
  obtain ⟨H, hH⟩ : ∃ H, H = s.heap := ⟨_, rfl⟩
  rw [← hH] at hP ⊢
  have hl := lv_entry ([.ref x]) (n := 1) (Nat.le_of_ble_eq_true rfl)
  rw [lg_entry_eq]
  generalize (lg_sl ([.ref x]) ++ List.replicate (1 - (lg_sl ([.ref x])).length) Slot.unset).toArray = ls at hl ⊢
  have hl : lv_has ls 1 [(0, .ref x)] := hl
  refine lv_aload_n (pc := 0) hx hb dV_why_0 rfl (lv_at hl 0 rfl) ?_
  refine va_get (D := (dC, dI)) (cl := kCl) (C := RV) (T := TV) (N := 9) (pc := 1) hx hb hts inV hown hK hP 0 rfl rfl 8 (by decide) (hts _ wd_53) (fun _ h9 => h9) rfl dV_why_1 ?_
  exact W.iret (pc := 4) hx hb hr (fun t ht hW => ⟨_, rfl, rfl, ht.trans hH⟩) (fun q h => nomatch h) dV_why_4
