abbrev cM_thrown : ByteArray := prog_9_method_2_code
abbrev yM_thrown : MethodName := ⟨"DrawingVaultModel", "thrown", "()I"⟩
theorem dM_thrown_0 : decode cM_thrown 0 = .ok (.aload_n 0, 1) := by decide +kernel
theorem dM_thrown_1 : decode cM_thrown 1 = .ok (.getfield 33, 3) := by decide +kernel
theorem dM_thrown_4 : decode cM_thrown 4 = .ok (.ireturn, 1) := by decide +kernel
abbrev cM_isPerson : ByteArray := prog_9_method_4_code
abbrev yM_isPerson : MethodName := ⟨"DrawingVaultModel", "isPerson", "(I)Z"⟩
theorem dM_isPerson_0 : decode cM_isPerson 0 = .ok (.iload_n 1, 1) := by decide +kernel
theorem dM_isPerson_1 : decode cM_isPerson 1 = .ok (.ifCond .lt 13, 3) := by decide +kernel
theorem dM_isPerson_4 : decode cM_isPerson 4 = .ok (.iload_n 1, 1) := by decide +kernel
theorem dM_isPerson_5 : decode cM_isPerson 5 = .ok (.bipush 16, 2) := by decide +kernel
theorem dM_isPerson_7 : decode cM_isPerson 7 = .ok (.if_icmp .ge 7, 3) := by decide +kernel
theorem dM_isPerson_10 : decode cM_isPerson 10 = .ok (.iconst 1, 1) := by decide +kernel
theorem dM_isPerson_11 : decode cM_isPerson 11 = .ok (.goto 4, 3) := by decide +kernel
theorem dM_isPerson_14 : decode cM_isPerson 14 = .ok (.iconst 0, 1) := by decide +kernel
theorem dM_isPerson_15 : decode cM_isPerson 15 = .ok (.ireturn, 1) := by decide +kernel
abbrev cM_drawingAt : ByteArray := prog_9_method_7_code
abbrev yM_drawingAt : MethodName := ⟨"DrawingVaultModel", "drawingAt", "(I)I"⟩
theorem dM_drawingAt_0 : decode cM_drawingAt 0 = .ok (.bipush 20, 2) := by decide +kernel
theorem dM_drawingAt_2 : decode cM_drawingAt 2 = .ok (.bipush 80, 2) := by decide +kernel
theorem dM_drawingAt_4 : decode cM_drawingAt 4 = .ok (.iload_n 1, 1) := by decide +kernel
theorem dM_drawingAt_5 : decode cM_drawingAt 5 = .ok (.imul, 1) := by decide +kernel
theorem dM_drawingAt_6 : decode cM_drawingAt 6 = .ok (.iadd, 1) := by decide +kernel
theorem dM_drawingAt_7 : decode cM_drawingAt 7 = .ok (.ireturn, 1) := by decide +kernel
abbrev cM_revisionAt : ByteArray := prog_9_method_10_code
abbrev yM_revisionAt : MethodName := ⟨"DrawingVaultModel", "revisionAt", "(II)I"⟩
theorem dM_revisionAt_0 : decode cM_revisionAt 0 = .ok (.sipush 1940, 3) := by decide +kernel
theorem dM_revisionAt_3 : decode cM_revisionAt 3 = .ok (.bipush 80, 2) := by decide +kernel
theorem dM_revisionAt_5 : decode cM_revisionAt 5 = .ok (.bipush 12, 2) := by decide +kernel
theorem dM_revisionAt_7 : decode cM_revisionAt 7 = .ok (.iload_n 1, 1) := by decide +kernel
theorem dM_revisionAt_8 : decode cM_revisionAt 8 = .ok (.imul, 1) := by decide +kernel
theorem dM_revisionAt_9 : decode cM_revisionAt 9 = .ok (.iload_n 2, 1) := by decide +kernel
theorem dM_revisionAt_10 : decode cM_revisionAt 10 = .ok (.iadd, 1) := by decide +kernel
theorem dM_revisionAt_11 : decode cM_revisionAt 11 = .ok (.imul, 1) := by decide +kernel
theorem dM_revisionAt_12 : decode cM_revisionAt 12 = .ok (.iadd, 1) := by decide +kernel
theorem dM_revisionAt_13 : decode cM_revisionAt 13 = .ok (.ireturn, 1) := by decide +kernel
abbrev cM_baselineAt : ByteArray := prog_9_method_27_code
abbrev yM_baselineAt : MethodName := ⟨"DrawingVaultModel", "baselineAt", "(I)I"⟩
theorem dM_baselineAt_0 : decode cM_baselineAt 0 = .ok (.sipush 24980, 3) := by decide +kernel
theorem dM_baselineAt_3 : decode cM_baselineAt 3 = .ok (.bipush 26, 2) := by decide +kernel
theorem dM_baselineAt_5 : decode cM_baselineAt 5 = .ok (.iload_n 1, 1) := by decide +kernel
theorem dM_baselineAt_6 : decode cM_baselineAt 6 = .ok (.imul, 1) := by decide +kernel
theorem dM_baselineAt_7 : decode cM_baselineAt 7 = .ok (.iadd, 1) := by decide +kernel
theorem dM_baselineAt_8 : decode cM_baselineAt 8 = .ok (.ireturn, 1) := by decide +kernel
abbrev cM_parts : ByteArray := prog_9_method_19_code
abbrev yM_parts : MethodName := ⟨"DrawingVaultModel", "parts", "(I)I"⟩
theorem dM_parts_0 : decode cM_parts 0 = .ok (.iload_n 0, 1) := by decide +kernel
theorem dM_parts_1 : decode cM_parts 1 = .ok (.bipush 7, 2) := by decide +kernel
theorem dM_parts_3 : decode cM_parts 3 = .ok (.iadd, 1) := by decide +kernel
theorem dM_parts_4 : decode cM_parts 4 = .ok (.bipush 8, 2) := by decide +kernel
theorem dM_parts_6 : decode cM_parts 6 = .ok (.idiv, 1) := by decide +kernel
theorem dM_parts_7 : decode cM_parts 7 = .ok (.ireturn, 1) := by decide +kernel
abbrev cM_isDrawing : ByteArray := prog_9_method_6_code
abbrev yM_isDrawing : MethodName := ⟨"DrawingVaultModel", "isDrawing", "(I)Z"⟩
theorem dM_isDrawing_0 : decode cM_isDrawing 0 = .ok (.iload_n 1, 1) := by decide +kernel
theorem dM_isDrawing_1 : decode cM_isDrawing 1 = .ok (.ifCond .lt 18, 3) := by decide +kernel
theorem dM_isDrawing_4 : decode cM_isDrawing 4 = .ok (.iload_n 1, 1) := by decide +kernel
theorem dM_isDrawing_5 : decode cM_isDrawing 5 = .ok (.aload_n 0, 1) := by decide +kernel
theorem dM_isDrawing_6 : decode cM_isDrawing 6 = .ok (.getfield 7, 3) := by decide +kernel
theorem dM_isDrawing_9 : decode cM_isDrawing 9 = .ok (.bipush 16, 2) := by decide +kernel
theorem dM_isDrawing_11 : decode cM_isDrawing 11 = .ok (.iaload, 1) := by decide +kernel
theorem dM_isDrawing_12 : decode cM_isDrawing 12 = .ok (.if_icmp .ge 7, 3) := by decide +kernel
theorem dM_isDrawing_15 : decode cM_isDrawing 15 = .ok (.iconst 1, 1) := by decide +kernel
theorem dM_isDrawing_16 : decode cM_isDrawing 16 = .ok (.goto 4, 3) := by decide +kernel
theorem dM_isDrawing_19 : decode cM_isDrawing 19 = .ok (.iconst 0, 1) := by decide +kernel
theorem dM_isDrawing_20 : decode cM_isDrawing 20 = .ok (.ireturn, 1) := by decide +kernel
abbrev cM_rights : ByteArray := prog_9_method_5_code
abbrev yM_rights : MethodName := ⟨"DrawingVaultModel", "rights", "(I)I"⟩
theorem dM_rights_0 : decode cM_rights 0 = .ok (.aload_n 0, 1) := by decide +kernel
theorem dM_rights_1 : decode cM_rights 1 = .ok (.iload_n 1, 1) := by decide +kernel
theorem dM_rights_2 : decode cM_rights 2 = .ok (.invokevirtual 36, 3) := by decide +kernel
theorem dM_rights_5 : decode cM_rights 5 = .ok (.ifCond .eq 12, 3) := by decide +kernel
theorem dM_rights_8 : decode cM_rights 8 = .ok (.aload_n 0, 1) := by decide +kernel
theorem dM_rights_9 : decode cM_rights 9 = .ok (.getfield 7, 3) := by decide +kernel
theorem dM_rights_12 : decode cM_rights 12 = .ok (.iload_n 1, 1) := by decide +kernel
theorem dM_rights_13 : decode cM_rights 13 = .ok (.iaload, 1) := by decide +kernel
theorem dM_rights_14 : decode cM_rights 14 = .ok (.goto 4, 3) := by decide +kernel
theorem dM_rights_17 : decode cM_rights 17 = .ok (.iconst 0, 1) := by decide +kernel
theorem dM_rights_18 : decode cM_rights 18 = .ok (.ireturn, 1) := by decide +kernel
abbrev cM_made : ByteArray := prog_9_method_8_code
abbrev yM_made : MethodName := ⟨"DrawingVaultModel", "made", "(I)I"⟩
theorem dM_made_0 : decode cM_made 0 = .ok (.aload_n 0, 1) := by decide +kernel
theorem dM_made_1 : decode cM_made 1 = .ok (.getfield 7, 3) := by decide +kernel
theorem dM_made_4 : decode cM_made 4 = .ok (.aload_n 0, 1) := by decide +kernel
theorem dM_made_5 : decode cM_made 5 = .ok (.iload_n 1, 1) := by decide +kernel
theorem dM_made_6 : decode cM_made 6 = .ok (.invokevirtual 40, 3) := by decide +kernel
theorem dM_made_9 : decode cM_made 9 = .ok (.iconst 0, 1) := by decide +kernel
theorem dM_made_10 : decode cM_made 10 = .ok (.iadd, 1) := by decide +kernel
theorem dM_made_11 : decode cM_made 11 = .ok (.iaload, 1) := by decide +kernel
theorem dM_made_12 : decode cM_made 12 = .ok (.ireturn, 1) := by decide +kernel
abbrev cM_with : ByteArray := prog_9_method_12_code
abbrev yM_with : MethodName := ⟨"DrawingVaultModel", "with", "(I)I"⟩
theorem dM_with_0 : decode cM_with 0 = .ok (.aload_n 0, 1) := by decide +kernel
theorem dM_with_1 : decode cM_with 1 = .ok (.getfield 7, 3) := by decide +kernel
theorem dM_with_4 : decode cM_with 4 = .ok (.aload_n 0, 1) := by decide +kernel
theorem dM_with_5 : decode cM_with 5 = .ok (.iload_n 1, 1) := by decide +kernel
theorem dM_with_6 : decode cM_with 6 = .ok (.invokevirtual 40, 3) := by decide +kernel
theorem dM_with_9 : decode cM_with 9 = .ok (.iconst 1, 1) := by decide +kernel
theorem dM_with_10 : decode cM_with 10 = .ok (.iadd, 1) := by decide +kernel
theorem dM_with_11 : decode cM_with 11 = .ok (.iaload, 1) := by decide +kernel
theorem dM_with_12 : decode cM_with 12 = .ok (.iconst 1, 1) := by decide +kernel
theorem dM_with_13 : decode cM_with 13 = .ok (.isub, 1) := by decide +kernel
theorem dM_with_14 : decode cM_with 14 = .ok (.ireturn, 1) := by decide +kernel
abbrev cM_stateOf : ByteArray := prog_9_method_11_code
abbrev yM_stateOf : MethodName := ⟨"DrawingVaultModel", "stateOf", "(II)I"⟩
theorem dM_stateOf_0 : decode cM_stateOf 0 = .ok (.aload_n 0, 1) := by decide +kernel
theorem dM_stateOf_1 : decode cM_stateOf 1 = .ok (.getfield 7, 3) := by decide +kernel
theorem dM_stateOf_4 : decode cM_stateOf 4 = .ok (.aload_n 0, 1) := by decide +kernel
theorem dM_stateOf_5 : decode cM_stateOf 5 = .ok (.iload_n 1, 1) := by decide +kernel
theorem dM_stateOf_6 : decode cM_stateOf 6 = .ok (.iload_n 2, 1) := by decide +kernel
theorem dM_stateOf_7 : decode cM_stateOf 7 = .ok (.invokevirtual 50, 3) := by decide +kernel
theorem dM_stateOf_10 : decode cM_stateOf 10 = .ok (.iconst 0, 1) := by decide +kernel
theorem dM_stateOf_11 : decode cM_stateOf 11 = .ok (.iadd, 1) := by decide +kernel
theorem dM_stateOf_12 : decode cM_stateOf 12 = .ok (.iaload, 1) := by decide +kernel
theorem dM_stateOf_13 : decode cM_stateOf 13 = .ok (.ireturn, 1) := by decide +kernel
abbrev cM_refDrawing : ByteArray := prog_9_method_14_code
abbrev yM_refDrawing : MethodName := ⟨"DrawingVaultModel", "refDrawing", "(II)I"⟩
theorem dM_refDrawing_0 : decode cM_refDrawing 0 = .ok (.aload_n 0, 1) := by decide +kernel
theorem dM_refDrawing_1 : decode cM_refDrawing 1 = .ok (.getfield 7, 3) := by decide +kernel
theorem dM_refDrawing_4 : decode cM_refDrawing 4 = .ok (.iload_n 1, 1) := by decide +kernel
theorem dM_refDrawing_5 : decode cM_refDrawing 5 = .ok (.iconst 4, 1) := by decide +kernel
theorem dM_refDrawing_6 : decode cM_refDrawing 6 = .ok (.iadd, 1) := by decide +kernel
theorem dM_refDrawing_7 : decode cM_refDrawing 7 = .ok (.iconst 2, 1) := by decide +kernel
theorem dM_refDrawing_8 : decode cM_refDrawing 8 = .ok (.iload_n 2, 1) := by decide +kernel
theorem dM_refDrawing_9 : decode cM_refDrawing 9 = .ok (.imul, 1) := by decide +kernel
theorem dM_refDrawing_10 : decode cM_refDrawing 10 = .ok (.iadd, 1) := by decide +kernel
theorem dM_refDrawing_11 : decode cM_refDrawing 11 = .ok (.iaload, 1) := by decide +kernel
theorem dM_refDrawing_12 : decode cM_refDrawing 12 = .ok (.ireturn, 1) := by decide +kernel
abbrev cM_refRevision : ByteArray := prog_9_method_15_code
abbrev yM_refRevision : MethodName := ⟨"DrawingVaultModel", "refRevision", "(II)I"⟩
theorem dM_refRevision_0 : decode cM_refRevision 0 = .ok (.aload_n 0, 1) := by decide +kernel
theorem dM_refRevision_1 : decode cM_refRevision 1 = .ok (.getfield 7, 3) := by decide +kernel
theorem dM_refRevision_4 : decode cM_refRevision 4 = .ok (.iload_n 1, 1) := by decide +kernel
theorem dM_refRevision_5 : decode cM_refRevision 5 = .ok (.iconst 4, 1) := by decide +kernel
theorem dM_refRevision_6 : decode cM_refRevision 6 = .ok (.iadd, 1) := by decide +kernel
theorem dM_refRevision_7 : decode cM_refRevision 7 = .ok (.iconst 2, 1) := by decide +kernel
theorem dM_refRevision_8 : decode cM_refRevision 8 = .ok (.iload_n 2, 1) := by decide +kernel
theorem dM_refRevision_9 : decode cM_refRevision 9 = .ok (.imul, 1) := by decide +kernel
theorem dM_refRevision_10 : decode cM_refRevision 10 = .ok (.iadd, 1) := by decide +kernel
theorem dM_refRevision_11 : decode cM_refRevision 11 = .ok (.iconst 1, 1) := by decide +kernel
theorem dM_refRevision_12 : decode cM_refRevision 12 = .ok (.iadd, 1) := by decide +kernel
theorem dM_refRevision_13 : decode cM_refRevision 13 = .ok (.iaload, 1) := by decide +kernel
theorem dM_refRevision_14 : decode cM_refRevision 14 = .ok (.ireturn, 1) := by decide +kernel
abbrev cM_least : ByteArray := prog_9_method_26_code
abbrev yM_least : MethodName := ⟨"DrawingVaultModel", "least", "(ZII)I"⟩
theorem dM_least_0 : decode cM_least 0 = .ok (.iload_n 0, 1) := by decide +kernel
theorem dM_least_1 : decode cM_least 1 = .ok (.ifCond .eq 16, 3) := by decide +kernel
theorem dM_least_4 : decode cM_least 4 = .ok (.iload_n 2, 1) := by decide +kernel
theorem dM_least_5 : decode cM_least 5 = .ok (.ifCond .eq 8, 3) := by decide +kernel
theorem dM_least_8 : decode cM_least 8 = .ok (.iload_n 1, 1) := by decide +kernel
theorem dM_least_9 : decode cM_least 9 = .ok (.iload_n 2, 1) := by decide +kernel
theorem dM_least_10 : decode cM_least 10 = .ok (.if_icmp .ge 7, 3) := by decide +kernel
theorem dM_least_13 : decode cM_least 13 = .ok (.iload_n 1, 1) := by decide +kernel
theorem dM_least_14 : decode cM_least 14 = .ok (.goto 4, 3) := by decide +kernel
theorem dM_least_17 : decode cM_least 17 = .ok (.iload_n 2, 1) := by decide +kernel
theorem dM_least_18 : decode cM_least 18 = .ok (.ireturn, 1) := by decide +kernel
theorem wd_115 : (.fieldLink "DrawingVaultModel" 33 "DrawingVaultModel" "thrown" "I" : Cond) ∈ aw := aw_in (tb_4 (List.mem_of_getElem? (i := 30) rfl)) rfl
theorem wd_116 : (.fieldLink "DrawingVaultModel" 7 "DrawingVaultModel" "now" "[I" : Cond) ∈ aw := aw_in (tb_4 (List.mem_of_getElem? (i := 32) rfl)) rfl
theorem wd_117 : (.code ⟨"DrawingVaultModel", "isPerson", "(I)Z"⟩ prog_9_method_4_code 2 (Option.some .boolean) : Cond) ∈ aw := aw_in (tb_4 (List.mem_of_getElem? (i := 76) rfl)) rfl
theorem wd_118 : (.methodLink "DrawingVaultModel" 36 ⟨"DrawingVaultModel", "isPerson", "(I)Z"⟩ : Cond) ∈ aw := aw_in (tb_4 (List.mem_of_getElem? (i := 73) rfl)) rfl
theorem wd_119 : (.instanceMethod ⟨"DrawingVaultModel", "isPerson", "(I)Z"⟩ : Cond) ∈ aw := aw_in (tb_4 (List.mem_of_getElem? (i := 75) rfl)) rfl
theorem wd_120 : (.selects "DrawingVaultModel" ⟨"DrawingVaultModel", "isPerson", "(I)Z"⟩ ⟨"DrawingVaultModel", "isPerson", "(I)Z"⟩ : Cond) ∈ aw := aw_in (tb_s (q := (⟨"DrawingVaultModel", "isPerson", "(I)Z"⟩, _)) (List.mem_append_right _ (List.mem_append_right _ (List.mem_append_left _ (List.mem_of_getElem? (i := 4) rfl))))) rfl
theorem wd_121 : (.initialized "DrawingVaultModel" : Cond) ∈ aw := aw_in (tb_1 (List.mem_of_getElem? (i := 6) rfl)) rfl
theorem wd_122 : (.code ⟨"DrawingVaultModel", "drawingAt", "(I)I"⟩ prog_9_method_7_code 2 (Option.some .int) : Cond) ∈ aw := aw_in (tb_4 (List.mem_of_getElem? (i := 100) rfl)) rfl
theorem wd_123 : (.methodLink "DrawingVaultModel" 40 ⟨"DrawingVaultModel", "drawingAt", "(I)I"⟩ : Cond) ∈ aw := aw_in (tb_4 (List.mem_of_getElem? (i := 97) rfl)) rfl
theorem wd_124 : (.instanceMethod ⟨"DrawingVaultModel", "drawingAt", "(I)I"⟩ : Cond) ∈ aw := aw_in (tb_4 (List.mem_of_getElem? (i := 99) rfl)) rfl
theorem wd_125 : (.selects "DrawingVaultModel" ⟨"DrawingVaultModel", "drawingAt", "(I)I"⟩ ⟨"DrawingVaultModel", "drawingAt", "(I)I"⟩ : Cond) ∈ aw := aw_in (tb_s (q := (⟨"DrawingVaultModel", "drawingAt", "(I)I"⟩, _)) (List.mem_append_right _ (List.mem_append_right _ (List.mem_append_left _ (List.mem_of_getElem? (i := 10) rfl))))) rfl
theorem wd_126 : (.code ⟨"DrawingVaultModel", "revisionAt", "(II)I"⟩ prog_9_method_10_code 3 (Option.some .int) : Cond) ∈ aw := aw_in (tb_4 (List.mem_of_getElem? (i := 124) rfl)) rfl
theorem wd_127 : (.methodLink "DrawingVaultModel" 50 ⟨"DrawingVaultModel", "revisionAt", "(II)I"⟩ : Cond) ∈ aw := aw_in (tb_4 (List.mem_of_getElem? (i := 121) rfl)) rfl
theorem wd_128 : (.instanceMethod ⟨"DrawingVaultModel", "revisionAt", "(II)I"⟩ : Cond) ∈ aw := aw_in (tb_4 (List.mem_of_getElem? (i := 123) rfl)) rfl
theorem wd_129 : (.selects "DrawingVaultModel" ⟨"DrawingVaultModel", "revisionAt", "(II)I"⟩ ⟨"DrawingVaultModel", "revisionAt", "(II)I"⟩ : Cond) ∈ aw := aw_in (tb_s (q := (⟨"DrawingVaultModel", "revisionAt", "(II)I"⟩, _)) (List.mem_append_right _ (List.mem_append_right _ (List.mem_append_right _ (List.mem_append_left _ (List.mem_of_getElem? (i := 0) rfl)))))) rfl
/-- the lesser of two reasons, as the model takes it -/
def lst (a b c : Int32) : Int32 := if a = 0 then c else if c = 0 then b else if b < c then b else c
theorem lst_0 {b c : Int32} : c = lst 0 b c := by unfold lst; rw [if_pos rfl]
theorem lst_n {a b : Int32} (h : ¬ a = 0) : b = lst a b 0 := by unfold lst; rw [if_neg h, if_pos rfl]
theorem lst_l {a b c : Int32} (h : ¬ a = 0) (h1 : ¬ c = 0) (h2 : b < c) : b = lst a b c := by unfold lst; rw [if_neg h, if_neg h1, if_pos h2]
theorem lst_g {a b c : Int32} (h : ¬ a = 0) (h1 : ¬ c = 0) (h2 : ¬ b < c) : c = lst a b c := by unfold lst; rw [if_neg h, if_neg h1, if_neg h2]

theorem vin_le {i : Int32} {a b : Nat} (h : vp_in i a) (hab : a ≤ b) : vp_in i b := fun q => q.elim (fun z => h (Or.inl z)) (fun z => h (Or.inr (Nat.le_trans hab z)))

set_option maxHeartbeats 4000000 in
set_option maxRecDepth 100000 in
theorem gm_thrown (l : Launch) (dC : Nat → ClassId) (dI : Nat → Nat → Nat) (mo : Nat) (nw : Nat) (kp : Nat) (mk : Nat) (co : Nat) (se : Nat) (th : Int32) (mr : Int32) (fd : Int32) (pl : Int32) (pt : Int32) (op : Int32) : Met l yM_thrown (.code yM_thrown cM_thrown 1 (some .int) :: aw) ({ frames := 0, cells := 0, slots := 0, locals := 0 }) (pR (dC, dI) [(mo, .inr (4, [.int th, .int mr, .ref nw, .ref kp, .int fd, .int pl, .ref mk, .ref co, .int pt, .int op, .ref se]))] [] [.ref mo]) (vp_Si (fun r => r = th)) 0 0 (fun _ => False) := by
  refine Met.ofW (cc := cM_thrown) (maxL := 1) (ret := (some .int)) (by decide) rfl ?_
  intro p e s m args below meth c s₁ B hml hv
  obtain ⟨rfl, hv⟩ := hv
  have hx := B.exec
  have hb := B.bytes
  have hr := B.returns
  have hts : ∀ w ∈ aw, w.before _ s = true := fun w h => atoms_spec (ws := (.code yM_thrown cM_thrown 1 (some .int) :: aw)) B.pre w (List.mem_cons_of_mem _ h)
  have hown : s.vm.findClass RM = some m.cls := findClass_of_methodNamed B.named
  have hlocks := B.notSynchronized
  obtain ⟨hP, hK, hG⟩ := hv
  obtain ⟨H, hH⟩ : ∃ H, H = s.heap := ⟨_, rfl⟩
  rw [← hH] at hP ⊢
  have hl := lv_entry ([.ref mo]) (n := 1) (Nat.le_of_ble_eq_true rfl)
  rw [lg_entry_eq]
  generalize (lg_sl ([.ref mo]) ++ List.replicate (1 - (lg_sl ([.ref mo])).length) Slot.unset).toArray = ls at hl ⊢
  have hl : lv_has ls 1 [(0, .ref mo)] := hl
  refine lv_aload_n (pc := 0) hx hb dM_thrown_0 rfl (lv_at hl 0 rfl) ?_
  refine va_get (D := (dC, dI)) (cl := kCl) (C := RM) (T := TM) (N := 11) (pc := 1) hx hb hts inM hown hK hP 0 rfl rfl 0 (by decide) (hts _ wd_115) (fun _ h9 => h9) rfl dM_thrown_1 ?_
  exact W.iret (pc := 4) hx hb hr (fun t ht hW => ⟨_, rfl, rfl, ht.trans hH⟩) (fun q h => nomatch h) dM_thrown_4
set_option maxHeartbeats 4000000 in
set_option maxRecDepth 100000 in
theorem gm_isPerson (l : Launch) (dC : Nat → ClassId) (dI : Nat → Nat → Nat) (mo : Nat) (nw : Nat) (kp : Nat) (mk : Nat) (co : Nat) (se : Nat) (th : Int32) (mr : Int32) (fd : Int32) (pl : Int32) (pt : Int32) (op : Int32) (pp : Int32) : Met l yM_isPerson (.code yM_isPerson cM_isPerson 2 (some .boolean) :: aw) ({ frames := 0, cells := 0, slots := 0, locals := 0 }) (pR (dC, dI) [(mo, .inr (4, [.int th, .int mr, .ref nw, .ref kp, .int fd, .int pl, .ref mk, .ref co, .int pt, .int op, .ref se]))] [] [.ref mo, .int pp]) (vp_Si (fun r => (r = 1 ∧ (¬ pp < 0 ∧ ¬ (16 : Int32) ≤ pp)) ∨ (r = 0 ∧ (pp < 0 ∨ (16 : Int32) ≤ pp)))) 0 0 (fun _ => False) := by
  refine Met.ofW (cc := cM_isPerson) (maxL := 2) (ret := (some .boolean)) (by decide) rfl ?_
  intro p e s m args below meth c s₁ B hml hv
  obtain ⟨rfl, hv⟩ := hv
  have hx := B.exec
  have hb := B.bytes
  have hr := B.returns
  have hts : ∀ w ∈ aw, w.before _ s = true := fun w h => atoms_spec (ws := (.code yM_isPerson cM_isPerson 2 (some .boolean) :: aw)) B.pre w (List.mem_cons_of_mem _ h)
  have hown : s.vm.findClass RM = some m.cls := findClass_of_methodNamed B.named
  have hlocks := B.notSynchronized
  obtain ⟨hP, hK, hG⟩ := hv
  obtain ⟨H, hH⟩ : ∃ H, H = s.heap := ⟨_, rfl⟩
  rw [← hH] at hP ⊢
  have hl := lv_entry ([.ref mo, .int pp]) (n := 2) (Nat.le_of_ble_eq_true rfl)
  rw [lg_entry_eq]
  generalize (lg_sl ([.ref mo, .int pp]) ++ List.replicate (2 - (lg_sl ([.ref mo, .int pp])).length) Slot.unset).toArray = ls at hl ⊢
  have hl : lv_has ls 2 [(0, .ref mo), (1, .int pp)] := hl
  refine lv_iload_n (pc := 0) hx hb dM_isPerson_0 rfl (lv_at hl 1 rfl) ?_
  refine lv_if_lt (pc := 1) (tgt := 14) hx hb dM_isPerson_1 rfl (fun h1 => ?_) (fun h1 => ?_)
  · refine lv_iconst (pc := 14) (v := 0) hx hb dM_isPerson_14 (by decide) ?_
    exact W.zret (pc := 15) hx hb hr rfl (fun t ht hW => ⟨_, rfl, (Or.inr ⟨rfl, by first | assumption | exact ⟨by assumption, by assumption⟩ | exact Or.inl (by assumption) | exact Or.inr (by assumption) | exact Or.inr (Or.inl (by assumption)) | exact Or.inr (Or.inr (by assumption)) | simp_all⟩), ht.trans hH⟩) (fun q h => nomatch h) dM_isPerson_15
  · refine lv_iload_n (pc := 4) hx hb dM_isPerson_4 rfl (lv_at hl 1 rfl) ?_
    refine lv_bipush (pc := 5) (v := 16) hx hb dM_isPerson_5 (by decide) ?_
    refine lv_icmp_ge (pc := 7) (tgt := 14) hx hb dM_isPerson_7 rfl (fun h2 => ?_) (fun h2 => ?_)
    · refine lv_iconst (pc := 14) (v := 0) hx hb dM_isPerson_14 (by decide) ?_
      exact W.zret (pc := 15) hx hb hr rfl (fun t ht hW => ⟨_, rfl, (Or.inr ⟨rfl, by first | assumption | exact ⟨by assumption, by assumption⟩ | exact Or.inl (by assumption) | exact Or.inr (by assumption) | exact Or.inr (Or.inl (by assumption)) | exact Or.inr (Or.inr (by assumption)) | simp_all⟩), ht.trans hH⟩) (fun q h => nomatch h) dM_isPerson_15
    · refine lv_iconst (pc := 10) (v := 1) hx hb dM_isPerson_10 (by decide) ?_
      refine lv_goto (pc := 11) (tgt := 15) hx hb dM_isPerson_11 rfl ?_
      exact W.zret (pc := 15) hx hb hr rfl (fun t ht hW => ⟨_, rfl, (Or.inl ⟨rfl, by first | assumption | exact ⟨by assumption, by assumption⟩ | exact Or.inl (by assumption) | exact Or.inr (by assumption) | exact Or.inr (Or.inl (by assumption)) | exact Or.inr (Or.inr (by assumption)) | simp_all⟩), ht.trans hH⟩) (fun q h => nomatch h) dM_isPerson_15
set_option maxHeartbeats 4000000 in
set_option maxRecDepth 100000 in
theorem gm_drawingAt (l : Launch) (dC : Nat → ClassId) (dI : Nat → Nat → Nat) (mo : Nat) (nw : Nat) (kp : Nat) (mk : Nat) (co : Nat) (se : Nat) (th : Int32) (mr : Int32) (fd : Int32) (pl : Int32) (pt : Int32) (op : Int32) (dd : Int32) : Met l yM_drawingAt (.code yM_drawingAt cM_drawingAt 2 (some .int) :: aw) ({ frames := 0, cells := 0, slots := 0, locals := 0 }) (pR (dC, dI) [(mo, .inr (4, [.int th, .int mr, .ref nw, .ref kp, .int fd, .int pl, .ref mk, .ref co, .int pt, .int op, .ref se]))] [] [.ref mo, .int dd]) (vp_Si (fun r => r = (20 + (80 * dd)))) 0 0 (fun _ => False) := by
  refine Met.ofW (cc := cM_drawingAt) (maxL := 2) (ret := (some .int)) (by decide) rfl ?_
  intro p e s m args below meth c s₁ B hml hv
  obtain ⟨rfl, hv⟩ := hv
  have hx := B.exec
  have hb := B.bytes
  have hr := B.returns
  have hts : ∀ w ∈ aw, w.before _ s = true := fun w h => atoms_spec (ws := (.code yM_drawingAt cM_drawingAt 2 (some .int) :: aw)) B.pre w (List.mem_cons_of_mem _ h)
  have hown : s.vm.findClass RM = some m.cls := findClass_of_methodNamed B.named
  have hlocks := B.notSynchronized
  obtain ⟨hP, hK, hG⟩ := hv
  obtain ⟨H, hH⟩ : ∃ H, H = s.heap := ⟨_, rfl⟩
  rw [← hH] at hP ⊢
  have hl := lv_entry ([.ref mo, .int dd]) (n := 2) (Nat.le_of_ble_eq_true rfl)
  rw [lg_entry_eq]
  generalize (lg_sl ([.ref mo, .int dd]) ++ List.replicate (2 - (lg_sl ([.ref mo, .int dd])).length) Slot.unset).toArray = ls at hl ⊢
  have hl : lv_has ls 2 [(0, .ref mo), (1, .int dd)] := hl
  refine lv_bipush (pc := 0) (v := 20) hx hb dM_drawingAt_0 (by decide) ?_
  refine lv_bipush (pc := 2) (v := 80) hx hb dM_drawingAt_2 (by decide) ?_
  refine lv_iload_n (pc := 4) hx hb dM_drawingAt_4 rfl (lv_at hl 1 rfl) ?_
  refine lv_imul (pc := 5) hx hb dM_drawingAt_5 ?_
  refine lv_iadd (pc := 6) hx hb dM_drawingAt_6 ?_
  exact W.iret (pc := 7) hx hb hr (fun t ht hW => ⟨_, rfl, rfl, ht.trans hH⟩) (fun q h => nomatch h) dM_drawingAt_7
set_option maxHeartbeats 4000000 in
set_option maxRecDepth 100000 in
theorem gm_revisionAt (l : Launch) (dC : Nat → ClassId) (dI : Nat → Nat → Nat) (mo : Nat) (nw : Nat) (kp : Nat) (mk : Nat) (co : Nat) (se : Nat) (th : Int32) (mr : Int32) (fd : Int32) (pl : Int32) (pt : Int32) (op : Int32) (dd : Int32) (vv : Int32) : Met l yM_revisionAt (.code yM_revisionAt cM_revisionAt 3 (some .int) :: aw) ({ frames := 0, cells := 0, slots := 0, locals := 0 }) (pR (dC, dI) [(mo, .inr (4, [.int th, .int mr, .ref nw, .ref kp, .int fd, .int pl, .ref mk, .ref co, .int pt, .int op, .ref se]))] [] [.ref mo, .int dd, .int vv]) (vp_Si (fun r => r = (1940 + (80 * ((12 * dd) + vv))))) 0 0 (fun _ => False) := by
  refine Met.ofW (cc := cM_revisionAt) (maxL := 3) (ret := (some .int)) (by decide) rfl ?_
  intro p e s m args below meth c s₁ B hml hv
  obtain ⟨rfl, hv⟩ := hv
  have hx := B.exec
  have hb := B.bytes
  have hr := B.returns
  have hts : ∀ w ∈ aw, w.before _ s = true := fun w h => atoms_spec (ws := (.code yM_revisionAt cM_revisionAt 3 (some .int) :: aw)) B.pre w (List.mem_cons_of_mem _ h)
  have hown : s.vm.findClass RM = some m.cls := findClass_of_methodNamed B.named
  have hlocks := B.notSynchronized
  obtain ⟨hP, hK, hG⟩ := hv
  obtain ⟨H, hH⟩ : ∃ H, H = s.heap := ⟨_, rfl⟩
  rw [← hH] at hP ⊢
  have hl := lv_entry ([.ref mo, .int dd, .int vv]) (n := 3) (Nat.le_of_ble_eq_true rfl)
  rw [lg_entry_eq]
  generalize (lg_sl ([.ref mo, .int dd, .int vv]) ++ List.replicate (3 - (lg_sl ([.ref mo, .int dd, .int vv])).length) Slot.unset).toArray = ls at hl ⊢
  have hl : lv_has ls 3 [(0, .ref mo), (1, .int dd), (2, .int vv)] := hl
  refine lv_sipush (pc := 0) (v := 1940) hx hb dM_revisionAt_0 (by decide) ?_
  refine lv_bipush (pc := 3) (v := 80) hx hb dM_revisionAt_3 (by decide) ?_
  refine lv_bipush (pc := 5) (v := 12) hx hb dM_revisionAt_5 (by decide) ?_
  refine lv_iload_n (pc := 7) hx hb dM_revisionAt_7 rfl (lv_at hl 1 rfl) ?_
  refine lv_imul (pc := 8) hx hb dM_revisionAt_8 ?_
  refine lv_iload_n (pc := 9) hx hb dM_revisionAt_9 rfl (lv_at hl 2 rfl) ?_
  refine lv_iadd (pc := 10) hx hb dM_revisionAt_10 ?_
  refine lv_imul (pc := 11) hx hb dM_revisionAt_11 ?_
  refine lv_iadd (pc := 12) hx hb dM_revisionAt_12 ?_
  exact W.iret (pc := 13) hx hb hr (fun t ht hW => ⟨_, rfl, rfl, ht.trans hH⟩) (fun q h => nomatch h) dM_revisionAt_13
set_option maxHeartbeats 4000000 in
set_option maxRecDepth 100000 in
theorem gm_baselineAt (l : Launch) (dC : Nat → ClassId) (dI : Nat → Nat → Nat) (mo : Nat) (nw : Nat) (kp : Nat) (mk : Nat) (co : Nat) (se : Nat) (th : Int32) (mr : Int32) (fd : Int32) (pl : Int32) (pt : Int32) (op : Int32) (nn : Int32) : Met l yM_baselineAt (.code yM_baselineAt cM_baselineAt 2 (some .int) :: aw) ({ frames := 0, cells := 0, slots := 0, locals := 0 }) (pR (dC, dI) [(mo, .inr (4, [.int th, .int mr, .ref nw, .ref kp, .int fd, .int pl, .ref mk, .ref co, .int pt, .int op, .ref se]))] [] [.ref mo, .int nn]) (vp_Si (fun r => r = (24980 + (26 * nn)))) 0 0 (fun _ => False) := by
  refine Met.ofW (cc := cM_baselineAt) (maxL := 2) (ret := (some .int)) (by decide) rfl ?_
  intro p e s m args below meth c s₁ B hml hv
  obtain ⟨rfl, hv⟩ := hv
  have hx := B.exec
  have hb := B.bytes
  have hr := B.returns
  have hts : ∀ w ∈ aw, w.before _ s = true := fun w h => atoms_spec (ws := (.code yM_baselineAt cM_baselineAt 2 (some .int) :: aw)) B.pre w (List.mem_cons_of_mem _ h)
  have hown : s.vm.findClass RM = some m.cls := findClass_of_methodNamed B.named
  have hlocks := B.notSynchronized
  obtain ⟨hP, hK, hG⟩ := hv
  obtain ⟨H, hH⟩ : ∃ H, H = s.heap := ⟨_, rfl⟩
  rw [← hH] at hP ⊢
  have hl := lv_entry ([.ref mo, .int nn]) (n := 2) (Nat.le_of_ble_eq_true rfl)
  rw [lg_entry_eq]
  generalize (lg_sl ([.ref mo, .int nn]) ++ List.replicate (2 - (lg_sl ([.ref mo, .int nn])).length) Slot.unset).toArray = ls at hl ⊢
  have hl : lv_has ls 2 [(0, .ref mo), (1, .int nn)] := hl
  refine lv_sipush (pc := 0) (v := 24980) hx hb dM_baselineAt_0 (by decide) ?_
  refine lv_bipush (pc := 3) (v := 26) hx hb dM_baselineAt_3 (by decide) ?_
  refine lv_iload_n (pc := 5) hx hb dM_baselineAt_5 rfl (lv_at hl 1 rfl) ?_
  refine lv_imul (pc := 6) hx hb dM_baselineAt_6 ?_
  refine lv_iadd (pc := 7) hx hb dM_baselineAt_7 ?_
  exact W.iret (pc := 8) hx hb hr (fun t ht hW => ⟨_, rfl, rfl, ht.trans hH⟩) (fun q h => nomatch h) dM_baselineAt_8
set_option maxHeartbeats 4000000 in
set_option maxRecDepth 100000 in
theorem gm_parts (l : Launch) (dC : Nat → ClassId) (dI : Nat → Nat → Nat) (bn : Int32) : Met l yM_parts (.code yM_parts cM_parts 1 (some .int) :: aw) ({ frames := 0, cells := 0, slots := 0, locals := 0 }) (pR (dC, dI) [] [] [.int bn]) (vp_Si (fun r => r = ((bn + 7) / 8))) 0 0 (fun _ => False) := by
  refine Met.ofW (cc := cM_parts) (maxL := 1) (ret := (some .int)) (by decide) rfl ?_
  intro p e s m args below meth c s₁ B hml hv
  obtain ⟨rfl, hv⟩ := hv
  have hx := B.exec
  have hb := B.bytes
  have hr := B.returns
  have hts : ∀ w ∈ aw, w.before _ s = true := fun w h => atoms_spec (ws := (.code yM_parts cM_parts 1 (some .int) :: aw)) B.pre w (List.mem_cons_of_mem _ h)
  have hown : s.vm.findClass RM = some m.cls := findClass_of_methodNamed B.named
  have hlocks := B.notSynchronized
  obtain ⟨hP, hK, hG⟩ := hv
  obtain ⟨H, hH⟩ : ∃ H, H = s.heap := ⟨_, rfl⟩
  rw [← hH] at hP ⊢
  have hl := lv_entry ([.int bn]) (n := 1) (Nat.le_of_ble_eq_true rfl)
  rw [lg_entry_eq]
  generalize (lg_sl ([.int bn]) ++ List.replicate (1 - (lg_sl ([.int bn])).length) Slot.unset).toArray = ls at hl ⊢
  have hl : lv_has ls 1 [(0, .int bn)] := hl
  refine lv_iload_n (pc := 0) hx hb dM_parts_0 rfl (lv_at hl 0 rfl) ?_
  refine lv_bipush (pc := 1) (v := 7) hx hb dM_parts_1 (by decide) ?_
  refine lv_iadd (pc := 3) hx hb dM_parts_3 ?_
  refine lv_bipush (pc := 4) (v := 8) hx hb dM_parts_4 (by decide) ?_
  refine lv_idiv (pc := 6) hx hb dM_parts_6 (by decide) ?_
  exact W.iret (pc := 7) hx hb hr (fun t ht hW => ⟨_, rfl, rfl, ht.trans hH⟩) (fun q h => nomatch h) dM_parts_7
set_option maxHeartbeats 4000000 in
set_option maxRecDepth 100000 in
theorem gm_isDrawing (l : Launch) (dC : Nat → ClassId) (dI : Nat → Nat → Nat) (mo : Nat) (nw : Nat) (kp : Nat) (mk : Nat) (co : Nat) (se : Nat) (th : Int32) (mr : Int32) (fd : Int32) (pl : Int32) (pt : Int32) (op : Int32) (cN : ClassId) (fw : Nat → Int32) (dd : Int32) : Met l yM_isDrawing (.code yM_isDrawing cM_isDrawing 2 (some .boolean) :: aw) ({ frames := 0, cells := 0, slots := 0, locals := 0 }) (pR (dC, dI) [(mo, .inr (4, [.int th, .int mr, .ref nw, .ref kp, .int fd, .int pl, .ref mk, .ref co, .int pt, .int op, .ref se])), (nw, .inl (cN, 25240, .inl fw))] [(cN, .int)] [.ref mo, .int dd]) (vp_Si (fun r => (r = 1 ∧ (¬ dd < 0 ∧ ¬ (fw 16) ≤ dd)) ∨ (r = 0 ∧ (dd < 0 ∨ (fw 16) ≤ dd)))) 0 0 (fun _ => False) := by
  refine Met.ofW (cc := cM_isDrawing) (maxL := 2) (ret := (some .boolean)) (by decide) rfl ?_
  intro p e s m args below meth c s₁ B hml hv
  obtain ⟨rfl, hv⟩ := hv
  have hx := B.exec
  have hb := B.bytes
  have hr := B.returns
  have hts : ∀ w ∈ aw, w.before _ s = true := fun w h => atoms_spec (ws := (.code yM_isDrawing cM_isDrawing 2 (some .boolean) :: aw)) B.pre w (List.mem_cons_of_mem _ h)
  have hown : s.vm.findClass RM = some m.cls := findClass_of_methodNamed B.named
  have hlocks := B.notSynchronized
  obtain ⟨hP, hK, hG⟩ := hv
  obtain ⟨H, hH⟩ : ∃ H, H = s.heap := ⟨_, rfl⟩
  rw [← hH] at hP ⊢
  have hl := lv_entry ([.ref mo, .int dd]) (n := 2) (Nat.le_of_ble_eq_true rfl)
  rw [lg_entry_eq]
  generalize (lg_sl ([.ref mo, .int dd]) ++ List.replicate (2 - (lg_sl ([.ref mo, .int dd])).length) Slot.unset).toArray = ls at hl ⊢
  have hl : lv_has ls 2 [(0, .ref mo), (1, .int dd)] := hl
  refine lv_iload_n (pc := 0) hx hb dM_isDrawing_0 rfl (lv_at hl 1 rfl) ?_
  refine lv_if_lt (pc := 1) (tgt := 19) hx hb dM_isDrawing_1 rfl (fun h1 => ?_) (fun h1 => ?_)
  · refine lv_iconst (pc := 19) (v := 0) hx hb dM_isDrawing_19 (by decide) ?_
    exact W.zret (pc := 20) hx hb hr rfl (fun t ht hW => ⟨_, rfl, (Or.inr ⟨rfl, by first | assumption | exact ⟨by assumption, by assumption⟩ | exact Or.inl (by assumption) | exact Or.inr (by assumption) | exact Or.inr (Or.inl (by assumption)) | exact Or.inr (Or.inr (by assumption)) | simp_all⟩), ht.trans hH⟩) (fun q h => nomatch h) dM_isDrawing_20
  · refine lv_iload_n (pc := 4) hx hb dM_isDrawing_4 rfl (lv_at hl 1 rfl) ?_
    refine lv_aload_n (pc := 5) hx hb dM_isDrawing_5 rfl (lv_at hl 0 rfl) ?_
    refine va_get (D := (dC, dI)) (cl := kCl) (C := RM) (T := TM) (N := 11) (pc := 6) hx hb hts inM hown hK hP 0 rfl rfl 2 (by decide) (hts _ wd_116) (fun _ h9 => h9) rfl dM_isDrawing_6 ?_
    refine lv_bipush (pc := 9) (v := 16) hx hb dM_isDrawing_9 (by decide) ?_
    refine va_iald (D := (dC, dI)) (cl := kCl) (pc := 11) hx hb hK hP 1 0 rfl rfl (vp_in_lit 16 25240 (by decide)) dM_isDrawing_11 ?_
    refine W.eq (g2 := F0 m 12 ls [.int (fw 16), .int dd]) rfl ?_
    refine lv_icmp_ge (pc := 12) (tgt := 19) hx hb dM_isDrawing_12 rfl (fun h2 => ?_) (fun h2 => ?_)
    · refine lv_iconst (pc := 19) (v := 0) hx hb dM_isDrawing_19 (by decide) ?_
      exact W.zret (pc := 20) hx hb hr rfl (fun t ht hW => ⟨_, rfl, (Or.inr ⟨rfl, by first | assumption | exact ⟨by assumption, by assumption⟩ | exact Or.inl (by assumption) | exact Or.inr (by assumption) | exact Or.inr (Or.inl (by assumption)) | exact Or.inr (Or.inr (by assumption)) | simp_all⟩), ht.trans hH⟩) (fun q h => nomatch h) dM_isDrawing_20
    · refine lv_iconst (pc := 15) (v := 1) hx hb dM_isDrawing_15 (by decide) ?_
      refine lv_goto (pc := 16) (tgt := 20) hx hb dM_isDrawing_16 rfl ?_
      exact W.zret (pc := 20) hx hb hr rfl (fun t ht hW => ⟨_, rfl, (Or.inl ⟨rfl, by first | assumption | exact ⟨by assumption, by assumption⟩ | exact Or.inl (by assumption) | exact Or.inr (by assumption) | exact Or.inr (Or.inl (by assumption)) | exact Or.inr (Or.inr (by assumption)) | simp_all⟩), ht.trans hH⟩) (fun q h => nomatch h) dM_isDrawing_20
set_option maxHeartbeats 4000000 in
set_option maxRecDepth 100000 in
theorem gm_rights (l : Launch) (dC : Nat → ClassId) (dI : Nat → Nat → Nat) (mo : Nat) (nw : Nat) (kp : Nat) (mk : Nat) (co : Nat) (se : Nat) (th : Int32) (mr : Int32) (fd : Int32) (pl : Int32) (pt : Int32) (op : Int32) (cN : ClassId) (fw : Nat → Int32) (pp : Int32) : Met l yM_rights (.code yM_rights cM_rights 2 (some .int) :: aw) ({ frames := 1, cells := 0, slots := 0, locals := 21 }) (pR (dC, dI) [(mo, .inr (4, [.int th, .int mr, .ref nw, .ref kp, .int fd, .int pl, .ref mk, .ref co, .int pt, .int op, .ref se])), (nw, .inl (cN, 25240, .inl fw))] [(cN, .int)] [.ref mo, .int pp]) (vp_Si (fun r => (r = (fw (pp : Int32).toNatClampNeg) ∧ (¬ pp < 0 ∧ ¬ (16 : Int32) ≤ pp)) ∨ (r = 0 ∧ (pp < 0 ∨ (16 : Int32) ≤ pp)))) 0 0 (fun _ => False) := by
  refine Met.ofW (cc := cM_rights) (maxL := 2) (ret := (some .int)) (by decide) rfl ?_
  intro p e s m args below meth c s₁ B hml hv
  obtain ⟨rfl, hv⟩ := hv
  have hx := B.exec
  have hb := B.bytes
  have hr := B.returns
  have hts : ∀ w ∈ aw, w.before _ s = true := fun w h => atoms_spec (ws := (.code yM_rights cM_rights 2 (some .int) :: aw)) B.pre w (List.mem_cons_of_mem _ h)
  have hown : s.vm.findClass RM = some m.cls := findClass_of_methodNamed B.named
  have hlocks := B.notSynchronized
  obtain ⟨hP, hK, hG⟩ := hv
  obtain ⟨H, hH⟩ : ∃ H, H = s.heap := ⟨_, rfl⟩
  rw [← hH] at hP ⊢
  have hl := lv_entry ([.ref mo, .int pp]) (n := 2) (Nat.le_of_ble_eq_true rfl)
  rw [lg_entry_eq]
  generalize (lg_sl ([.ref mo, .int pp]) ++ List.replicate (2 - (lg_sl ([.ref mo, .int pp])).length) Slot.unset).toArray = ls at hl ⊢
  have hl : lv_has ls 2 [(0, .ref mo), (1, .int pp)] := hl
  refine lv_aload_n (pc := 0) hx hb dM_rights_0 rfl (lv_at hl 0 rfl) ?_
  refine lv_iload_n (pc := 1) hx hb dM_rights_1 rfl (lv_at hl 1 rfl) ?_
  refine vp_callSi (pc := 2) (W.runV (As := [.int pp]) (rest := []) ⟨hx, hb, hml, hown, hts⟩ (gm_isPerson l dC dI mo nw kp mk co se th mr fd pl pt op pp) (cwV 1 hts (gV wd_118 wd_119 wd_120 wd_121 wd_117) rfl rfl rfl (by decide +kernel) ⟨Nat.le_of_ble_eq_true rfl, Nat.le_of_ble_eq_true rfl⟩) ⟨pR_blind, va_recv (q := (RM, TM, 11)) (q0 := 0) (ci := 4) hK hP rfl rfl, pR_pre (hP.sub (ws' := [(mo, .inr (4, [.int th, .int mr, .ref nw, .ref kp, .int fd, .int pl, .ref mk, .ref co, .int pt, .int op, .ref se]))]) [0] rfl) (hK.sub (tys' := []) [] rfl) hG⟩ rfl rfl hl.1 rfl (lv_room (Nat.le_of_ble_eq_true rfl)) dM_rights_2 ⟨Nat.le_of_ble_eq_true rfl, Nat.le_of_ble_eq_true rfl⟩) (fun r1 hr2 => ?_)
  obtain ⟨rfl, h3⟩ | ⟨rfl, h3⟩ : (r1 = 1 ∧ (¬ pp < 0 ∧ ¬ (16 : Int32) ≤ pp)) ∨ (r1 = 0 ∧ (pp < 0 ∨ (16 : Int32) ≤ pp)) := hr2
  · refine lv_if_eq (pc := 5) (tgt := 17) hx hb dM_rights_5 rfl (fun h4 => absurd h4 (by decide)) (fun h4 => ?_)
    refine lv_aload_n (pc := 8) hx hb dM_rights_8 rfl (lv_at hl 0 rfl) ?_
    refine va_get (D := (dC, dI)) (cl := kCl) (C := RM) (T := TM) (N := 11) (pc := 9) hx hb hts inM hown hK hP 0 rfl rfl 2 (by decide) (hts _ wd_116) (fun _ h9 => h9) rfl dM_rights_9 ?_
    refine lv_iload_n (pc := 12) hx hb dM_rights_12 rfl (lv_at hl 1 rfl) ?_
    refine va_iald (D := (dC, dI)) (cl := kCl) (pc := 13) hx hb hK hP 1 0 rfl rfl (vin_le (vin_of (n := 16) (k := 16) (by decide) h3.1 h3.2) (by decide)) dM_rights_13 ?_
    refine W.eq (g2 := F0 m 14 ls [.int (fw (pp : Int32).toNatClampNeg)]) rfl ?_
    refine lv_goto (pc := 14) (tgt := 18) hx hb dM_rights_14 rfl ?_
    exact W.iret (pc := 18) hx hb hr (fun t ht hW => ⟨_, rfl, (Or.inl ⟨rfl, by first | assumption | exact ⟨by assumption, by assumption⟩ | exact Or.inl (by assumption) | exact Or.inr (by assumption) | exact Or.inr (Or.inl (by assumption)) | exact Or.inr (Or.inr (by assumption)) | simp_all⟩), ht.trans hH⟩) (fun q h => nomatch h) dM_rights_18
  · refine lv_if_eq (pc := 5) (tgt := 17) hx hb dM_rights_5 rfl (fun h5 => ?_) (fun h5 => absurd h5 (by decide))
    refine lv_iconst (pc := 17) (v := 0) hx hb dM_rights_17 (by decide) ?_
    exact W.iret (pc := 18) hx hb hr (fun t ht hW => ⟨_, rfl, (Or.inr ⟨rfl, by first | assumption | exact ⟨by assumption, by assumption⟩ | exact Or.inl (by assumption) | exact Or.inr (by assumption) | exact Or.inr (Or.inl (by assumption)) | exact Or.inr (Or.inr (by assumption)) | simp_all⟩), ht.trans hH⟩) (fun q h => nomatch h) dM_rights_18
set_option maxHeartbeats 4000000 in
set_option maxRecDepth 100000 in
theorem gm_made (l : Launch) (dC : Nat → ClassId) (dI : Nat → Nat → Nat) (mo : Nat) (nw : Nat) (kp : Nat) (mk : Nat) (co : Nat) (se : Nat) (th : Int32) (mr : Int32) (fd : Int32) (pl : Int32) (pt : Int32) (op : Int32) (cN : ClassId) (fw : Nat → Int32) (dd : Int32) (hv : vp_in ((20 + (80 * dd)) + 0) 25240) : Met l yM_made (.code yM_made cM_made 2 (some .int) :: aw) ({ frames := 1, cells := 0, slots := 0, locals := 21 }) (pR (dC, dI) [(mo, .inr (4, [.int th, .int mr, .ref nw, .ref kp, .int fd, .int pl, .ref mk, .ref co, .int pt, .int op, .ref se])), (nw, .inl (cN, 25240, .inl fw))] [(cN, .int)] [.ref mo, .int dd]) (vp_Si (fun r => r = (fw (((20 + (80 * dd)) + 0) : Int32).toNatClampNeg))) 0 0 (fun _ => False) := by
  refine Met.ofW (cc := cM_made) (maxL := 2) (ret := (some .int)) (by decide) rfl ?_
  intro p e s m args below meth c s₁ B hml hv
  obtain ⟨rfl, hv⟩ := hv
  have hx := B.exec
  have hb := B.bytes
  have hr := B.returns
  have hts : ∀ w ∈ aw, w.before _ s = true := fun w h => atoms_spec (ws := (.code yM_made cM_made 2 (some .int) :: aw)) B.pre w (List.mem_cons_of_mem _ h)
  have hown : s.vm.findClass RM = some m.cls := findClass_of_methodNamed B.named
  have hlocks := B.notSynchronized
  obtain ⟨hP, hK, hG⟩ := hv
  obtain ⟨H, hH⟩ : ∃ H, H = s.heap := ⟨_, rfl⟩
  rw [← hH] at hP ⊢
  have hl := lv_entry ([.ref mo, .int dd]) (n := 2) (Nat.le_of_ble_eq_true rfl)
  rw [lg_entry_eq]
  generalize (lg_sl ([.ref mo, .int dd]) ++ List.replicate (2 - (lg_sl ([.ref mo, .int dd])).length) Slot.unset).toArray = ls at hl ⊢
  have hl : lv_has ls 2 [(0, .ref mo), (1, .int dd)] := hl
  refine lv_aload_n (pc := 0) hx hb dM_made_0 rfl (lv_at hl 0 rfl) ?_
  refine va_get (D := (dC, dI)) (cl := kCl) (C := RM) (T := TM) (N := 11) (pc := 1) hx hb hts inM hown hK hP 0 rfl rfl 2 (by decide) (hts _ wd_116) (fun _ h9 => h9) rfl dM_made_1 ?_
  refine lv_aload_n (pc := 4) hx hb dM_made_4 rfl (lv_at hl 0 rfl) ?_
  refine lv_iload_n (pc := 5) hx hb dM_made_5 rfl (lv_at hl 1 rfl) ?_
  refine vp_callSi (pc := 6) (W.runV (As := [.int dd]) (rest := [.ref nw]) ⟨hx, hb, hml, hown, hts⟩ (gm_drawingAt l dC dI mo nw kp mk co se th mr fd pl pt op dd) (cwV 1 hts (gV wd_123 wd_124 wd_125 wd_121 wd_122) rfl rfl rfl (by decide +kernel) ⟨Nat.le_of_ble_eq_true rfl, Nat.le_of_ble_eq_true rfl⟩) ⟨pR_blind, va_recv (q := (RM, TM, 11)) (q0 := 0) (ci := 4) hK hP rfl rfl, pR_pre (hP.sub (ws' := [(mo, .inr (4, [.int th, .int mr, .ref nw, .ref kp, .int fd, .int pl, .ref mk, .ref co, .int pt, .int op, .ref se]))]) [0] rfl) (hK.sub (tys' := []) [] rfl) hG⟩ rfl rfl hl.1 rfl (lv_room (Nat.le_of_ble_eq_true rfl)) dM_made_6 ⟨Nat.le_of_ble_eq_true rfl, Nat.le_of_ble_eq_true rfl⟩) (fun r1 hr2 => ?_)
  obtain rfl : r1 = (20 + (80 * dd)) := hr2
  refine lv_iconst (pc := 9) (v := 0) hx hb dM_made_9 (by decide) ?_
  refine lv_iadd (pc := 10) hx hb dM_made_10 ?_
  refine va_iald (D := (dC, dI)) (cl := kCl) (pc := 11) hx hb hK hP 1 0 rfl rfl (hv) dM_made_11 ?_
  refine W.eq (g2 := F0 m 12 ls [.int (fw (((20 + (80 * dd)) + 0) : Int32).toNatClampNeg)]) rfl ?_
  exact W.iret (pc := 12) hx hb hr (fun t ht hW => ⟨_, rfl, rfl, ht.trans hH⟩) (fun q h => nomatch h) dM_made_12
set_option maxHeartbeats 4000000 in
set_option maxRecDepth 100000 in
theorem gm_with (l : Launch) (dC : Nat → ClassId) (dI : Nat → Nat → Nat) (mo : Nat) (nw : Nat) (kp : Nat) (mk : Nat) (co : Nat) (se : Nat) (th : Int32) (mr : Int32) (fd : Int32) (pl : Int32) (pt : Int32) (op : Int32) (cN : ClassId) (fw : Nat → Int32) (dd : Int32) (hv : vp_in ((20 + (80 * dd)) + 1) 25240) : Met l yM_with (.code yM_with cM_with 2 (some .int) :: aw) ({ frames := 1, cells := 0, slots := 0, locals := 21 }) (pR (dC, dI) [(mo, .inr (4, [.int th, .int mr, .ref nw, .ref kp, .int fd, .int pl, .ref mk, .ref co, .int pt, .int op, .ref se])), (nw, .inl (cN, 25240, .inl fw))] [(cN, .int)] [.ref mo, .int dd]) (vp_Si (fun r => r = ((fw (((20 + (80 * dd)) + 1) : Int32).toNatClampNeg) - 1))) 0 0 (fun _ => False) := by
  refine Met.ofW (cc := cM_with) (maxL := 2) (ret := (some .int)) (by decide) rfl ?_
  intro p e s m args below meth c s₁ B hml hv
  obtain ⟨rfl, hv⟩ := hv
  have hx := B.exec
  have hb := B.bytes
  have hr := B.returns
  have hts : ∀ w ∈ aw, w.before _ s = true := fun w h => atoms_spec (ws := (.code yM_with cM_with 2 (some .int) :: aw)) B.pre w (List.mem_cons_of_mem _ h)
  have hown : s.vm.findClass RM = some m.cls := findClass_of_methodNamed B.named
  have hlocks := B.notSynchronized
  obtain ⟨hP, hK, hG⟩ := hv
  obtain ⟨H, hH⟩ : ∃ H, H = s.heap := ⟨_, rfl⟩
  rw [← hH] at hP ⊢
  have hl := lv_entry ([.ref mo, .int dd]) (n := 2) (Nat.le_of_ble_eq_true rfl)
  rw [lg_entry_eq]
  generalize (lg_sl ([.ref mo, .int dd]) ++ List.replicate (2 - (lg_sl ([.ref mo, .int dd])).length) Slot.unset).toArray = ls at hl ⊢
  have hl : lv_has ls 2 [(0, .ref mo), (1, .int dd)] := hl
  refine lv_aload_n (pc := 0) hx hb dM_with_0 rfl (lv_at hl 0 rfl) ?_
  refine va_get (D := (dC, dI)) (cl := kCl) (C := RM) (T := TM) (N := 11) (pc := 1) hx hb hts inM hown hK hP 0 rfl rfl 2 (by decide) (hts _ wd_116) (fun _ h9 => h9) rfl dM_with_1 ?_
  refine lv_aload_n (pc := 4) hx hb dM_with_4 rfl (lv_at hl 0 rfl) ?_
  refine lv_iload_n (pc := 5) hx hb dM_with_5 rfl (lv_at hl 1 rfl) ?_
  refine vp_callSi (pc := 6) (W.runV (As := [.int dd]) (rest := [.ref nw]) ⟨hx, hb, hml, hown, hts⟩ (gm_drawingAt l dC dI mo nw kp mk co se th mr fd pl pt op dd) (cwV 1 hts (gV wd_123 wd_124 wd_125 wd_121 wd_122) rfl rfl rfl (by decide +kernel) ⟨Nat.le_of_ble_eq_true rfl, Nat.le_of_ble_eq_true rfl⟩) ⟨pR_blind, va_recv (q := (RM, TM, 11)) (q0 := 0) (ci := 4) hK hP rfl rfl, pR_pre (hP.sub (ws' := [(mo, .inr (4, [.int th, .int mr, .ref nw, .ref kp, .int fd, .int pl, .ref mk, .ref co, .int pt, .int op, .ref se]))]) [0] rfl) (hK.sub (tys' := []) [] rfl) hG⟩ rfl rfl hl.1 rfl (lv_room (Nat.le_of_ble_eq_true rfl)) dM_with_6 ⟨Nat.le_of_ble_eq_true rfl, Nat.le_of_ble_eq_true rfl⟩) (fun r1 hr2 => ?_)
  obtain rfl : r1 = (20 + (80 * dd)) := hr2
  refine lv_iconst (pc := 9) (v := 1) hx hb dM_with_9 (by decide) ?_
  refine lv_iadd (pc := 10) hx hb dM_with_10 ?_
  refine va_iald (D := (dC, dI)) (cl := kCl) (pc := 11) hx hb hK hP 1 0 rfl rfl (hv) dM_with_11 ?_
  refine W.eq (g2 := F0 m 12 ls [.int (fw (((20 + (80 * dd)) + 1) : Int32).toNatClampNeg)]) rfl ?_
  refine lv_iconst (pc := 12) (v := 1) hx hb dM_with_12 (by decide) ?_
  refine lv_isub (pc := 13) hx hb dM_with_13 ?_
  exact W.iret (pc := 14) hx hb hr (fun t ht hW => ⟨_, rfl, rfl, ht.trans hH⟩) (fun q h => nomatch h) dM_with_14
set_option maxHeartbeats 4000000 in
set_option maxRecDepth 100000 in
theorem gm_stateOf (l : Launch) (dC : Nat → ClassId) (dI : Nat → Nat → Nat) (mo : Nat) (nw : Nat) (kp : Nat) (mk : Nat) (co : Nat) (se : Nat) (th : Int32) (mr : Int32) (fd : Int32) (pl : Int32) (pt : Int32) (op : Int32) (cN : ClassId) (fw : Nat → Int32) (dd : Int32) (vv : Int32) (hv : vp_in ((1940 + (80 * ((12 * dd) + vv))) + 0) 25240) : Met l yM_stateOf (.code yM_stateOf cM_stateOf 3 (some .int) :: aw) ({ frames := 1, cells := 0, slots := 0, locals := 22 }) (pR (dC, dI) [(mo, .inr (4, [.int th, .int mr, .ref nw, .ref kp, .int fd, .int pl, .ref mk, .ref co, .int pt, .int op, .ref se])), (nw, .inl (cN, 25240, .inl fw))] [(cN, .int)] [.ref mo, .int dd, .int vv]) (vp_Si (fun r => r = (fw (((1940 + (80 * ((12 * dd) + vv))) + 0) : Int32).toNatClampNeg))) 0 0 (fun _ => False) := by
  refine Met.ofW (cc := cM_stateOf) (maxL := 3) (ret := (some .int)) (by decide) rfl ?_
  intro p e s m args below meth c s₁ B hml hv
  obtain ⟨rfl, hv⟩ := hv
  have hx := B.exec
  have hb := B.bytes
  have hr := B.returns
  have hts : ∀ w ∈ aw, w.before _ s = true := fun w h => atoms_spec (ws := (.code yM_stateOf cM_stateOf 3 (some .int) :: aw)) B.pre w (List.mem_cons_of_mem _ h)
  have hown : s.vm.findClass RM = some m.cls := findClass_of_methodNamed B.named
  have hlocks := B.notSynchronized
  obtain ⟨hP, hK, hG⟩ := hv
  obtain ⟨H, hH⟩ : ∃ H, H = s.heap := ⟨_, rfl⟩
  rw [← hH] at hP ⊢
  have hl := lv_entry ([.ref mo, .int dd, .int vv]) (n := 3) (Nat.le_of_ble_eq_true rfl)
  rw [lg_entry_eq]
  generalize (lg_sl ([.ref mo, .int dd, .int vv]) ++ List.replicate (3 - (lg_sl ([.ref mo, .int dd, .int vv])).length) Slot.unset).toArray = ls at hl ⊢
  have hl : lv_has ls 3 [(0, .ref mo), (1, .int dd), (2, .int vv)] := hl
  refine lv_aload_n (pc := 0) hx hb dM_stateOf_0 rfl (lv_at hl 0 rfl) ?_
  refine va_get (D := (dC, dI)) (cl := kCl) (C := RM) (T := TM) (N := 11) (pc := 1) hx hb hts inM hown hK hP 0 rfl rfl 2 (by decide) (hts _ wd_116) (fun _ h9 => h9) rfl dM_stateOf_1 ?_
  refine lv_aload_n (pc := 4) hx hb dM_stateOf_4 rfl (lv_at hl 0 rfl) ?_
  refine lv_iload_n (pc := 5) hx hb dM_stateOf_5 rfl (lv_at hl 1 rfl) ?_
  refine lv_iload_n (pc := 6) hx hb dM_stateOf_6 rfl (lv_at hl 2 rfl) ?_
  refine vp_callSi (pc := 7) (W.runV (As := [.int dd, .int vv]) (rest := [.ref nw]) ⟨hx, hb, hml, hown, hts⟩ (gm_revisionAt l dC dI mo nw kp mk co se th mr fd pl pt op dd vv) (cwV 2 hts (gV wd_127 wd_128 wd_129 wd_121 wd_126) rfl rfl rfl (by decide +kernel) ⟨Nat.le_of_ble_eq_true rfl, Nat.le_of_ble_eq_true rfl⟩) ⟨pR_blind, va_recv (q := (RM, TM, 11)) (q0 := 0) (ci := 4) hK hP rfl rfl, pR_pre (hP.sub (ws' := [(mo, .inr (4, [.int th, .int mr, .ref nw, .ref kp, .int fd, .int pl, .ref mk, .ref co, .int pt, .int op, .ref se]))]) [0] rfl) (hK.sub (tys' := []) [] rfl) hG⟩ rfl rfl hl.1 rfl (lv_room (Nat.le_of_ble_eq_true rfl)) dM_stateOf_7 ⟨Nat.le_of_ble_eq_true rfl, Nat.le_of_ble_eq_true rfl⟩) (fun r1 hr2 => ?_)
  obtain rfl : r1 = (1940 + (80 * ((12 * dd) + vv))) := hr2
  refine lv_iconst (pc := 10) (v := 0) hx hb dM_stateOf_10 (by decide) ?_
  refine lv_iadd (pc := 11) hx hb dM_stateOf_11 ?_
  refine va_iald (D := (dC, dI)) (cl := kCl) (pc := 12) hx hb hK hP 1 0 rfl rfl (hv) dM_stateOf_12 ?_
  refine W.eq (g2 := F0 m 13 ls [.int (fw (((1940 + (80 * ((12 * dd) + vv))) + 0) : Int32).toNatClampNeg)]) rfl ?_
  exact W.iret (pc := 13) hx hb hr (fun t ht hW => ⟨_, rfl, rfl, ht.trans hH⟩) (fun q h => nomatch h) dM_stateOf_13
set_option maxHeartbeats 4000000 in
set_option maxRecDepth 100000 in
theorem gm_refDrawing (l : Launch) (dC : Nat → ClassId) (dI : Nat → Nat → Nat) (mo : Nat) (nw : Nat) (kp : Nat) (mk : Nat) (co : Nat) (se : Nat) (th : Int32) (mr : Int32) (fd : Int32) (pl : Int32) (pt : Int32) (op : Int32) (cN : ClassId) (fw : Nat → Int32) (ta : Int32) (kk : Int32) (hv : vp_in ((ta + 4) + (2 * kk)) 25240) : Met l yM_refDrawing (.code yM_refDrawing cM_refDrawing 3 (some .int) :: aw) ({ frames := 0, cells := 0, slots := 0, locals := 0 }) (pR (dC, dI) [(mo, .inr (4, [.int th, .int mr, .ref nw, .ref kp, .int fd, .int pl, .ref mk, .ref co, .int pt, .int op, .ref se])), (nw, .inl (cN, 25240, .inl fw))] [(cN, .int)] [.ref mo, .int ta, .int kk]) (vp_Si (fun r => r = (fw (((ta + 4) + (2 * kk)) : Int32).toNatClampNeg))) 0 0 (fun _ => False) := by
  refine Met.ofW (cc := cM_refDrawing) (maxL := 3) (ret := (some .int)) (by decide) rfl ?_
  intro p e s m args below meth c s₁ B hml hv
  obtain ⟨rfl, hv⟩ := hv
  have hx := B.exec
  have hb := B.bytes
  have hr := B.returns
  have hts : ∀ w ∈ aw, w.before _ s = true := fun w h => atoms_spec (ws := (.code yM_refDrawing cM_refDrawing 3 (some .int) :: aw)) B.pre w (List.mem_cons_of_mem _ h)
  have hown : s.vm.findClass RM = some m.cls := findClass_of_methodNamed B.named
  have hlocks := B.notSynchronized
  obtain ⟨hP, hK, hG⟩ := hv
  obtain ⟨H, hH⟩ : ∃ H, H = s.heap := ⟨_, rfl⟩
  rw [← hH] at hP ⊢
  have hl := lv_entry ([.ref mo, .int ta, .int kk]) (n := 3) (Nat.le_of_ble_eq_true rfl)
  rw [lg_entry_eq]
  generalize (lg_sl ([.ref mo, .int ta, .int kk]) ++ List.replicate (3 - (lg_sl ([.ref mo, .int ta, .int kk])).length) Slot.unset).toArray = ls at hl ⊢
  have hl : lv_has ls 3 [(0, .ref mo), (1, .int ta), (2, .int kk)] := hl
  refine lv_aload_n (pc := 0) hx hb dM_refDrawing_0 rfl (lv_at hl 0 rfl) ?_
  refine va_get (D := (dC, dI)) (cl := kCl) (C := RM) (T := TM) (N := 11) (pc := 1) hx hb hts inM hown hK hP 0 rfl rfl 2 (by decide) (hts _ wd_116) (fun _ h9 => h9) rfl dM_refDrawing_1 ?_
  refine lv_iload_n (pc := 4) hx hb dM_refDrawing_4 rfl (lv_at hl 1 rfl) ?_
  refine lv_iconst (pc := 5) (v := 4) hx hb dM_refDrawing_5 (by decide) ?_
  refine lv_iadd (pc := 6) hx hb dM_refDrawing_6 ?_
  refine lv_iconst (pc := 7) (v := 2) hx hb dM_refDrawing_7 (by decide) ?_
  refine lv_iload_n (pc := 8) hx hb dM_refDrawing_8 rfl (lv_at hl 2 rfl) ?_
  refine lv_imul (pc := 9) hx hb dM_refDrawing_9 ?_
  refine lv_iadd (pc := 10) hx hb dM_refDrawing_10 ?_
  refine va_iald (D := (dC, dI)) (cl := kCl) (pc := 11) hx hb hK hP 1 0 rfl rfl (hv) dM_refDrawing_11 ?_
  refine W.eq (g2 := F0 m 12 ls [.int (fw (((ta + 4) + (2 * kk)) : Int32).toNatClampNeg)]) rfl ?_
  exact W.iret (pc := 12) hx hb hr (fun t ht hW => ⟨_, rfl, rfl, ht.trans hH⟩) (fun q h => nomatch h) dM_refDrawing_12
set_option maxHeartbeats 4000000 in
set_option maxRecDepth 100000 in
theorem gm_refRevision (l : Launch) (dC : Nat → ClassId) (dI : Nat → Nat → Nat) (mo : Nat) (nw : Nat) (kp : Nat) (mk : Nat) (co : Nat) (se : Nat) (th : Int32) (mr : Int32) (fd : Int32) (pl : Int32) (pt : Int32) (op : Int32) (cN : ClassId) (fw : Nat → Int32) (ta : Int32) (kk : Int32) (hv : vp_in (((ta + 4) + (2 * kk)) + 1) 25240) : Met l yM_refRevision (.code yM_refRevision cM_refRevision 3 (some .int) :: aw) ({ frames := 0, cells := 0, slots := 0, locals := 0 }) (pR (dC, dI) [(mo, .inr (4, [.int th, .int mr, .ref nw, .ref kp, .int fd, .int pl, .ref mk, .ref co, .int pt, .int op, .ref se])), (nw, .inl (cN, 25240, .inl fw))] [(cN, .int)] [.ref mo, .int ta, .int kk]) (vp_Si (fun r => r = (fw ((((ta + 4) + (2 * kk)) + 1) : Int32).toNatClampNeg))) 0 0 (fun _ => False) := by
  refine Met.ofW (cc := cM_refRevision) (maxL := 3) (ret := (some .int)) (by decide) rfl ?_
  intro p e s m args below meth c s₁ B hml hv
  obtain ⟨rfl, hv⟩ := hv
  have hx := B.exec
  have hb := B.bytes
  have hr := B.returns
  have hts : ∀ w ∈ aw, w.before _ s = true := fun w h => atoms_spec (ws := (.code yM_refRevision cM_refRevision 3 (some .int) :: aw)) B.pre w (List.mem_cons_of_mem _ h)
  have hown : s.vm.findClass RM = some m.cls := findClass_of_methodNamed B.named
  have hlocks := B.notSynchronized
  obtain ⟨hP, hK, hG⟩ := hv
  obtain ⟨H, hH⟩ : ∃ H, H = s.heap := ⟨_, rfl⟩
  rw [← hH] at hP ⊢
  have hl := lv_entry ([.ref mo, .int ta, .int kk]) (n := 3) (Nat.le_of_ble_eq_true rfl)
  rw [lg_entry_eq]
  generalize (lg_sl ([.ref mo, .int ta, .int kk]) ++ List.replicate (3 - (lg_sl ([.ref mo, .int ta, .int kk])).length) Slot.unset).toArray = ls at hl ⊢
  have hl : lv_has ls 3 [(0, .ref mo), (1, .int ta), (2, .int kk)] := hl
  refine lv_aload_n (pc := 0) hx hb dM_refRevision_0 rfl (lv_at hl 0 rfl) ?_
  refine va_get (D := (dC, dI)) (cl := kCl) (C := RM) (T := TM) (N := 11) (pc := 1) hx hb hts inM hown hK hP 0 rfl rfl 2 (by decide) (hts _ wd_116) (fun _ h9 => h9) rfl dM_refRevision_1 ?_
  refine lv_iload_n (pc := 4) hx hb dM_refRevision_4 rfl (lv_at hl 1 rfl) ?_
  refine lv_iconst (pc := 5) (v := 4) hx hb dM_refRevision_5 (by decide) ?_
  refine lv_iadd (pc := 6) hx hb dM_refRevision_6 ?_
  refine lv_iconst (pc := 7) (v := 2) hx hb dM_refRevision_7 (by decide) ?_
  refine lv_iload_n (pc := 8) hx hb dM_refRevision_8 rfl (lv_at hl 2 rfl) ?_
  refine lv_imul (pc := 9) hx hb dM_refRevision_9 ?_
  refine lv_iadd (pc := 10) hx hb dM_refRevision_10 ?_
  refine lv_iconst (pc := 11) (v := 1) hx hb dM_refRevision_11 (by decide) ?_
  refine lv_iadd (pc := 12) hx hb dM_refRevision_12 ?_
  refine va_iald (D := (dC, dI)) (cl := kCl) (pc := 13) hx hb hK hP 1 0 rfl rfl (hv) dM_refRevision_13 ?_
  refine W.eq (g2 := F0 m 14 ls [.int (fw ((((ta + 4) + (2 * kk)) + 1) : Int32).toNatClampNeg)]) rfl ?_
  exact W.iret (pc := 14) hx hb hr (fun t ht hW => ⟨_, rfl, rfl, ht.trans hH⟩) (fun q h => nomatch h) dM_refRevision_14
set_option maxHeartbeats 4000000 in
set_option maxRecDepth 100000 in
theorem gm_least (l : Launch) (dC : Nat → ClassId) (dI : Nat → Nat → Nat) (ba : Int32) (nu : Int32) (be : Int32) : Met l yM_least (.code yM_least cM_least 3 (some .int) :: aw) ({ frames := 0, cells := 0, slots := 0, locals := 0 }) (pR (dC, dI) [] [] [.int ba, .int nu, .int be]) (vp_Si (fun r => r = (lst ba nu be))) 0 0 (fun _ => False) := by
  refine Met.ofW (cc := cM_least) (maxL := 3) (ret := (some .int)) (by decide) rfl ?_
  intro p e s m args below meth c s₁ B hml hv
  obtain ⟨rfl, hv⟩ := hv
  have hx := B.exec
  have hb := B.bytes
  have hr := B.returns
  have hts : ∀ w ∈ aw, w.before _ s = true := fun w h => atoms_spec (ws := (.code yM_least cM_least 3 (some .int) :: aw)) B.pre w (List.mem_cons_of_mem _ h)
  have hown : s.vm.findClass RM = some m.cls := findClass_of_methodNamed B.named
  have hlocks := B.notSynchronized
  obtain ⟨hP, hK, hG⟩ := hv
  obtain ⟨H, hH⟩ : ∃ H, H = s.heap := ⟨_, rfl⟩
  rw [← hH] at hP ⊢
  have hl := lv_entry ([.int ba, .int nu, .int be]) (n := 3) (Nat.le_of_ble_eq_true rfl)
  rw [lg_entry_eq]
  generalize (lg_sl ([.int ba, .int nu, .int be]) ++ List.replicate (3 - (lg_sl ([.int ba, .int nu, .int be])).length) Slot.unset).toArray = ls at hl ⊢
  have hl : lv_has ls 3 [(0, .int ba), (1, .int nu), (2, .int be)] := hl
  refine lv_iload_n (pc := 0) hx hb dM_least_0 rfl (lv_at hl 0 rfl) ?_
  refine lv_if_eq (pc := 1) (tgt := 17) hx hb dM_least_1 rfl (fun h1 => ?_) (fun h1 => ?_)
  · refine lv_iload_n (pc := 17) hx hb dM_least_17 rfl (lv_at hl 2 rfl) ?_
    exact W.iret (pc := 18) hx hb hr (fun t ht hW => ⟨_, rfl, by rw [h1]; exact lst_0, ht.trans hH⟩) (fun q h => nomatch h) dM_least_18
  · refine lv_iload_n (pc := 4) hx hb dM_least_4 rfl (lv_at hl 2 rfl) ?_
    refine lv_if_eq (pc := 5) (tgt := 13) hx hb dM_least_5 rfl (fun h2 => ?_) (fun h2 => ?_)
    · refine lv_iload_n (pc := 13) hx hb dM_least_13 rfl (lv_at hl 1 rfl) ?_
      refine lv_goto (pc := 14) (tgt := 18) hx hb dM_least_14 rfl ?_
      exact W.iret (pc := 18) hx hb hr (fun t ht hW => ⟨_, rfl, by rw [h2]; exact lst_n h1, ht.trans hH⟩) (fun q h => nomatch h) dM_least_18
    · refine lv_iload_n (pc := 8) hx hb dM_least_8 rfl (lv_at hl 1 rfl) ?_
      refine lv_iload_n (pc := 9) hx hb dM_least_9 rfl (lv_at hl 2 rfl) ?_
      refine lv_icmp_ge (pc := 10) (tgt := 17) hx hb dM_least_10 rfl (fun h3 => ?_) (fun h3 => ?_)
      · refine lv_iload_n (pc := 17) hx hb dM_least_17 rfl (lv_at hl 2 rfl) ?_
        exact W.iret (pc := 18) hx hb hr (fun t ht hW => ⟨_, rfl, lst_g h1 h2 (Int32.not_lt.mpr h3), ht.trans hH⟩) (fun q h => nomatch h) dM_least_18
      · refine lv_iload_n (pc := 13) hx hb dM_least_13 rfl (lv_at hl 1 rfl) ?_
        refine lv_goto (pc := 14) (tgt := 18) hx hb dM_least_14 rfl ?_
        exact W.iret (pc := 18) hx hb hr (fun t ht hW => ⟨_, rfl, lst_l h1 h2 (Int32.not_le.mp h3), ht.trans hH⟩) (fun q h => nomatch h) dM_least_18
