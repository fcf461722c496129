abbrev cM_resolved : ByteArray := prog_9_method_16_code
abbrev yM_resolved : MethodName := ⟨"DrawingVaultModel", "resolved", "(II)I"⟩
theorem dM_resolved_0 : decode cM_resolved 0 = .ok (.aload_n 0, 1) := by decide +kernel
theorem dM_resolved_1 : decode cM_resolved 1 = .ok (.iload_n 1, 1) := by decide +kernel
theorem dM_resolved_2 : decode cM_resolved 2 = .ok (.iload_n 2, 1) := by decide +kernel
theorem dM_resolved_3 : decode cM_resolved 3 = .ok (.invokevirtual 57, 3) := by decide +kernel
theorem dM_resolved_6 : decode cM_resolved 6 = .ok (.istore_n 3, 1) := by decide +kernel
theorem dM_resolved_7 : decode cM_resolved 7 = .ok (.iload_n 3, 1) := by decide +kernel
theorem dM_resolved_8 : decode cM_resolved 8 = .ok (.iconst (-1), 1) := by decide +kernel
theorem dM_resolved_9 : decode cM_resolved 9 = .ok (.if_icmp .ne 16, 3) := by decide +kernel
theorem dM_resolved_12 : decode cM_resolved 12 = .ok (.aload_n 0, 1) := by decide +kernel
theorem dM_resolved_13 : decode cM_resolved 13 = .ok (.aload_n 0, 1) := by decide +kernel
theorem dM_resolved_14 : decode cM_resolved 14 = .ok (.iload_n 1, 1) := by decide +kernel
theorem dM_resolved_15 : decode cM_resolved 15 = .ok (.iload_n 2, 1) := by decide +kernel
theorem dM_resolved_16 : decode cM_resolved 16 = .ok (.invokevirtual 60, 3) := by decide +kernel
theorem dM_resolved_19 : decode cM_resolved 19 = .ok (.invokevirtual 63, 3) := by decide +kernel
theorem dM_resolved_22 : decode cM_resolved 22 = .ok (.goto 4, 3) := by decide +kernel
theorem dM_resolved_25 : decode cM_resolved 25 = .ok (.iload_n 3, 1) := by decide +kernel
theorem dM_resolved_26 : decode cM_resolved 26 = .ok (.ireturn, 1) := by decide +kernel
theorem wd_139 : (.code ⟨"DrawingVaultModel", "refRevision", "(II)I"⟩ prog_9_method_15_code 3 (Option.some .int) : Cond) ∈ aw := aw_in (tb_4 (List.mem_of_getElem? (i := 226) rfl)) rfl
theorem wd_140 : (.methodLink "DrawingVaultModel" 57 ⟨"DrawingVaultModel", "refRevision", "(II)I"⟩ : Cond) ∈ aw := aw_in (tb_4 (List.mem_of_getElem? (i := 223) rfl)) rfl
theorem wd_141 : (.instanceMethod ⟨"DrawingVaultModel", "refRevision", "(II)I"⟩ : Cond) ∈ aw := aw_in (tb_4 (List.mem_of_getElem? (i := 225) rfl)) rfl
theorem wd_142 : (.selects "DrawingVaultModel" ⟨"DrawingVaultModel", "refRevision", "(II)I"⟩ ⟨"DrawingVaultModel", "refRevision", "(II)I"⟩ : Cond) ∈ aw := aw_in (tb_s (q := (⟨"DrawingVaultModel", "refRevision", "(II)I"⟩, _)) (List.mem_append_right _ (List.mem_append_right _ (List.mem_append_right _ (List.mem_append_right _ (List.mem_of_getElem? (i := 0) rfl)))))) rfl
theorem wd_143 : (.code ⟨"DrawingVaultModel", "refDrawing", "(II)I"⟩ prog_9_method_14_code 3 (Option.some .int) : Cond) ∈ aw := aw_in (tb_4 (List.mem_of_getElem? (i := 218) rfl)) rfl
theorem wd_144 : (.methodLink "DrawingVaultModel" 60 ⟨"DrawingVaultModel", "refDrawing", "(II)I"⟩ : Cond) ∈ aw := aw_in (tb_4 (List.mem_of_getElem? (i := 215) rfl)) rfl
theorem wd_145 : (.instanceMethod ⟨"DrawingVaultModel", "refDrawing", "(II)I"⟩ : Cond) ∈ aw := aw_in (tb_4 (List.mem_of_getElem? (i := 217) rfl)) rfl
theorem wd_146 : (.selects "DrawingVaultModel" ⟨"DrawingVaultModel", "refDrawing", "(II)I"⟩ ⟨"DrawingVaultModel", "refDrawing", "(II)I"⟩ : Cond) ∈ aw := aw_in (tb_s (q := (⟨"DrawingVaultModel", "refDrawing", "(II)I"⟩, _)) (List.mem_append_right _ (List.mem_append_right _ (List.mem_append_right _ (List.mem_append_left _ (List.mem_of_getElem? (i := 14) rfl)))))) rfl
theorem wd_147 : (.code ⟨"DrawingVaultModel", "released", "(I)I"⟩ prog_9_method_13_code 4 (Option.some .int) : Cond) ∈ aw := aw_in (tb_5 (List.mem_of_getElem? (i := 22) rfl)) rfl
theorem wd_148 : (.methodLink "DrawingVaultModel" 63 ⟨"DrawingVaultModel", "released", "(I)I"⟩ : Cond) ∈ aw := aw_in (tb_5 (List.mem_of_getElem? (i := 19) rfl)) rfl
theorem wd_149 : (.instanceMethod ⟨"DrawingVaultModel", "released", "(I)I"⟩ : Cond) ∈ aw := aw_in (tb_5 (List.mem_of_getElem? (i := 21) rfl)) rfl
theorem wd_150 : (.selects "DrawingVaultModel" ⟨"DrawingVaultModel", "released", "(I)I"⟩ ⟨"DrawingVaultModel", "released", "(I)I"⟩ : Cond) ∈ aw := aw_in (tb_s (q := (⟨"DrawingVaultModel", "released", "(I)I"⟩, _)) (List.mem_append_right _ (List.mem_append_right _ (List.mem_append_right _ (List.mem_append_right _ (List.mem_of_getElem? (i := 7) rfl)))))) rfl

set_option maxHeartbeats 4000000 in
set_option maxRecDepth 100000 in
theorem gn_resolved0 (l : Launch) (dC : Nat → ClassId) (dI : Nat → Nat → Nat) (mo : Nat) (nw : Nat) (kp : Nat) (mk : Nat) (co : Nat) (se : Nat) (th : Int32) (mr : Int32) (fd : Int32) (pl : Int32) (pt : Int32) (op : Int32) (cN : ClassId) (fw : Nat → Int32) (tn : Nat) (kn : Nat) (gn : Nat) (rn : Nat) (ht : tn + 80 ≤ 25240) (hk : kn < 6) (hg : fw (tn + 4 + (2 * kn)) = nI gn) (hg24 : gn < 24) (hrn : fw (20 + (80 * gn) + 0) = nI rn) (hr12 : rn ≤ 12) (hs : fw (tn + 4 + (2 * kn) + 1) = (-1)) : Met l yM_resolved (.code yM_resolved cM_resolved 4 (some .int) :: aw) ({ frames := 3, cells := 0, slots := 0, locals := 67 }) (pR (dC, dI) [(mo, .inr (4, [.int th, .int mr, .ref nw, .ref kp, .int fd, .int pl, .ref mk, .ref co, .int pt, .int op, .ref se])), (nw, .inl (cN, 25240, .inl fw))] [(cN, .int)] [.ref mo, .int (nI tn), .int (nI kn)]) (vp_Si (fun r => r = (m_rel fw gn rn))) 0 0 (fun _ => False) := by
  refine Met.ofW (cc := cM_resolved) (maxL := 4) (ret := (some .int)) (by decide) rfl ?_
  intro p e s m args below meth c s₁ B hml hv
  obtain ⟨rfl, hv⟩ := hv
  have hx := B.exec
  have hb := B.bytes
  have hr := B.returns
  have hts : ∀ w ∈ aw, w.before _ s = true := fun w h => atoms_spec (ws := (.code yM_resolved cM_resolved 4 (some .int) :: aw)) B.pre w (List.mem_cons_of_mem _ h)
  have hown : s.vm.findClass RM = some m.cls := findClass_of_methodNamed B.named
  have hlocks := B.notSynchronized
  obtain ⟨hP, hK, hG⟩ := hv
  obtain ⟨H, hH⟩ : ∃ H, H = s.heap := ⟨_, rfl⟩
  rw [← hH] at hP ⊢
  have hl := lv_entry ([.ref mo, .int (nI tn), .int (nI kn)]) (n := 4) (Nat.le_of_ble_eq_true rfl)
  rw [lg_entry_eq]
  generalize (lg_sl ([.ref mo, .int (nI tn), .int (nI kn)]) ++ List.replicate (4 - (lg_sl ([.ref mo, .int (nI tn), .int (nI kn)])).length) Slot.unset).toArray = ls at hl ⊢
  have hl : lv_has ls 4 [(0, .ref mo), (1, .int (nI tn)), (2, .int (nI kn))] := hl
  refine lv_aload_n (pc := 0) hx hb dM_resolved_0 rfl (lv_at hl 0 rfl) ?_
  refine lv_iload_n (pc := 1) hx hb dM_resolved_1 rfl (lv_at hl 1 rfl) ?_
  refine lv_iload_n (pc := 2) hx hb dM_resolved_2 rfl (lv_at hl 2 rfl) ?_
  refine vp_callSi (pc := 3) (W.runV (As := [.int (nI tn), .int (nI kn)]) (rest := []) ⟨hx, hb, hml, hown, hts⟩ (gn_refRevision l dC dI mo nw kp mk co se th mr fd pl pt op cN fw tn kn (by omega) (by omega)) (cwV 2 hts (gV wd_140 wd_141 wd_142 wd_121 wd_139) rfl rfl rfl (by decide +kernel) ⟨Nat.le_of_ble_eq_true rfl, Nat.le_of_ble_eq_true rfl⟩) ⟨pR_blind, va_recv (q := (RM, TM, 11)) (q0 := 0) (ci := 4) hK hP rfl rfl, pR_pre (hP.sub (ws' := [(mo, .inr (4, [.int th, .int mr, .ref nw, .ref kp, .int fd, .int pl, .ref mk, .ref co, .int pt, .int op, .ref se])), (nw, .inl (cN, 25240, .inl fw))]) [0, 1] rfl) (hK.sub (tys' := [(cN, .int)]) [0] rfl) hG⟩ rfl rfl hl.1 rfl (lv_room (Nat.le_of_ble_eq_true rfl)) dM_resolved_3 ⟨Nat.le_of_ble_eq_true rfl, Nat.le_of_ble_eq_true rfl⟩) (fun r1 hr2 => ?_)
  obtain rfl : r1 = (fw (tn + 4 + (2 * kn) + 1)) := hr2
  refine lv_istore_n (pc := 6) hx hb dM_resolved_6 rfl hl (by decide) rfl (fun ls hl => ?_)
  have hl : lv_has ls 4 [(3, .int (fw (tn + 4 + (2 * kn) + 1))), (0, .ref mo), (1, .int (nI tn)), (2, .int (nI kn))] := hl
  refine lv_iload_n (pc := 7) hx hb dM_resolved_7 rfl (lv_at hl 0 rfl) ?_
  refine lv_iconst (pc := 8) (v := (-1)) hx hb dM_resolved_8 (by decide) ?_
  refine lv_icmp_ne (pc := 9) (tgt := 25) hx hb dM_resolved_9 rfl (fun h3 => absurd hs h3) (fun h3 => ?_)
  refine lv_aload_n (pc := 12) hx hb dM_resolved_12 rfl (lv_at hl 1 rfl) ?_
  refine lv_aload_n (pc := 13) hx hb dM_resolved_13 rfl (lv_at hl 1 rfl) ?_
  refine lv_iload_n (pc := 14) hx hb dM_resolved_14 rfl (lv_at hl 2 rfl) ?_
  refine lv_iload_n (pc := 15) hx hb dM_resolved_15 rfl (lv_at hl 3 rfl) ?_
  refine vp_callSi (pc := 16) (W.runV (As := [.int (nI tn), .int (nI kn)]) (rest := [.ref mo]) ⟨hx, hb, hml, hown, hts⟩ (gn_refDrawing l dC dI mo nw kp mk co se th mr fd pl pt op cN fw tn kn (by omega) (by omega)) (cwV 2 hts (gV wd_144 wd_145 wd_146 wd_121 wd_143) rfl rfl rfl (by decide +kernel) ⟨Nat.le_of_ble_eq_true rfl, Nat.le_of_ble_eq_true rfl⟩) ⟨pR_blind, va_recv (q := (RM, TM, 11)) (q0 := 0) (ci := 4) hK hP rfl rfl, pR_pre (hP.sub (ws' := [(mo, .inr (4, [.int th, .int mr, .ref nw, .ref kp, .int fd, .int pl, .ref mk, .ref co, .int pt, .int op, .ref se])), (nw, .inl (cN, 25240, .inl fw))]) [0, 1] rfl) (hK.sub (tys' := [(cN, .int)]) [0] rfl) hG⟩ rfl rfl hl.1 rfl (lv_room (Nat.le_of_ble_eq_true rfl)) dM_resolved_16 ⟨Nat.le_of_ble_eq_true rfl, Nat.le_of_ble_eq_true rfl⟩) (fun r4 hr5 => ?_)
  obtain rfl : r4 = (fw (tn + 4 + (2 * kn))) := hr5
  refine lv_topi (fun z6 hz7 => ?_)
  obtain rfl : z6 = nI gn := hz7.trans hg
  refine vp_callSi (pc := 19) (W.runV (As := [.int (nI gn)]) (rest := []) ⟨hx, hb, hml, hown, hts⟩ (gn_released l dC dI mo nw kp mk co se th mr fd pl pt op cN fw gn rn (hg24) (hrn) (hr12)) (cwV 1 hts (gV wd_148 wd_149 wd_150 wd_121 wd_147) rfl rfl rfl (by decide +kernel) ⟨Nat.le_of_ble_eq_true rfl, Nat.le_of_ble_eq_true rfl⟩) ⟨pR_blind, va_recv (q := (RM, TM, 11)) (q0 := 0) (ci := 4) hK hP rfl rfl, pR_pre (hP.sub (ws' := [(mo, .inr (4, [.int th, .int mr, .ref nw, .ref kp, .int fd, .int pl, .ref mk, .ref co, .int pt, .int op, .ref se])), (nw, .inl (cN, 25240, .inl fw))]) [0, 1] rfl) (hK.sub (tys' := [(cN, .int)]) [0] rfl) hG⟩ rfl rfl hl.1 rfl (lv_room (Nat.le_of_ble_eq_true rfl)) dM_resolved_19 ⟨Nat.le_of_ble_eq_true rfl, Nat.le_of_ble_eq_true rfl⟩) (fun r8 hr9 => ?_)
  obtain rfl : r8 = (m_rel fw gn rn) := hr9
  refine lv_goto (pc := 22) (tgt := 26) hx hb dM_resolved_22 rfl ?_
  exact W.iret (pc := 26) hx hb hr (fun t ht hW => ⟨_, rfl, rfl, ht.trans hH⟩) (fun q h => nomatch h) dM_resolved_26
set_option maxHeartbeats 4000000 in
set_option maxRecDepth 100000 in
theorem gn_resolved1 (l : Launch) (dC : Nat → ClassId) (dI : Nat → Nat → Nat) (mo : Nat) (nw : Nat) (kp : Nat) (mk : Nat) (co : Nat) (se : Nat) (th : Int32) (mr : Int32) (fd : Int32) (pl : Int32) (pt : Int32) (op : Int32) (cN : ClassId) (fw : Nat → Int32) (tn : Nat) (kn : Nat) (gn : Nat) (rn : Nat) (ht : tn + 80 ≤ 25240) (hk : kn < 6) (hg : fw (tn + 4 + (2 * kn)) = nI gn) (hg24 : gn < 24) (hrn : fw (20 + (80 * gn) + 0) = nI rn) (hr12 : rn ≤ 12) (hs : ¬ fw (tn + 4 + (2 * kn) + 1) = (-1)) : Met l yM_resolved (.code yM_resolved cM_resolved 4 (some .int) :: aw) ({ frames := 1, cells := 0, slots := 0, locals := 22 }) (pR (dC, dI) [(mo, .inr (4, [.int th, .int mr, .ref nw, .ref kp, .int fd, .int pl, .ref mk, .ref co, .int pt, .int op, .ref se])), (nw, .inl (cN, 25240, .inl fw))] [(cN, .int)] [.ref mo, .int (nI tn), .int (nI kn)]) (vp_Si (fun r => r = (fw (tn + 4 + (2 * kn) + 1)))) 0 0 (fun _ => False) := by
  refine Met.ofW (cc := cM_resolved) (maxL := 4) (ret := (some .int)) (by decide) rfl ?_
  intro p e s m args below meth c s₁ B hml hv
  obtain ⟨rfl, hv⟩ := hv
  have hx := B.exec
  have hb := B.bytes
  have hr := B.returns
  have hts : ∀ w ∈ aw, w.before _ s = true := fun w h => atoms_spec (ws := (.code yM_resolved cM_resolved 4 (some .int) :: aw)) B.pre w (List.mem_cons_of_mem _ h)
  have hown : s.vm.findClass RM = some m.cls := findClass_of_methodNamed B.named
  have hlocks := B.notSynchronized
  obtain ⟨hP, hK, hG⟩ := hv
  obtain ⟨H, hH⟩ : ∃ H, H = s.heap := ⟨_, rfl⟩
  rw [← hH] at hP ⊢
  have hl := lv_entry ([.ref mo, .int (nI tn), .int (nI kn)]) (n := 4) (Nat.le_of_ble_eq_true rfl)
  rw [lg_entry_eq]
  generalize (lg_sl ([.ref mo, .int (nI tn), .int (nI kn)]) ++ List.replicate (4 - (lg_sl ([.ref mo, .int (nI tn), .int (nI kn)])).length) Slot.unset).toArray = ls at hl ⊢
  have hl : lv_has ls 4 [(0, .ref mo), (1, .int (nI tn)), (2, .int (nI kn))] := hl
  refine lv_aload_n (pc := 0) hx hb dM_resolved_0 rfl (lv_at hl 0 rfl) ?_
  refine lv_iload_n (pc := 1) hx hb dM_resolved_1 rfl (lv_at hl 1 rfl) ?_
  refine lv_iload_n (pc := 2) hx hb dM_resolved_2 rfl (lv_at hl 2 rfl) ?_
  refine vp_callSi (pc := 3) (W.runV (As := [.int (nI tn), .int (nI kn)]) (rest := []) ⟨hx, hb, hml, hown, hts⟩ (gn_refRevision l dC dI mo nw kp mk co se th mr fd pl pt op cN fw tn kn (by omega) (by omega)) (cwV 2 hts (gV wd_140 wd_141 wd_142 wd_121 wd_139) rfl rfl rfl (by decide +kernel) ⟨Nat.le_of_ble_eq_true rfl, Nat.le_of_ble_eq_true rfl⟩) ⟨pR_blind, va_recv (q := (RM, TM, 11)) (q0 := 0) (ci := 4) hK hP rfl rfl, pR_pre (hP.sub (ws' := [(mo, .inr (4, [.int th, .int mr, .ref nw, .ref kp, .int fd, .int pl, .ref mk, .ref co, .int pt, .int op, .ref se])), (nw, .inl (cN, 25240, .inl fw))]) [0, 1] rfl) (hK.sub (tys' := [(cN, .int)]) [0] rfl) hG⟩ rfl rfl hl.1 rfl (lv_room (Nat.le_of_ble_eq_true rfl)) dM_resolved_3 ⟨Nat.le_of_ble_eq_true rfl, Nat.le_of_ble_eq_true rfl⟩) (fun r1 hr2 => ?_)
  obtain rfl : r1 = (fw (tn + 4 + (2 * kn) + 1)) := hr2
  refine lv_istore_n (pc := 6) hx hb dM_resolved_6 rfl hl (by decide) rfl (fun ls hl => ?_)
  have hl : lv_has ls 4 [(3, .int (fw (tn + 4 + (2 * kn) + 1))), (0, .ref mo), (1, .int (nI tn)), (2, .int (nI kn))] := hl
  refine lv_iload_n (pc := 7) hx hb dM_resolved_7 rfl (lv_at hl 0 rfl) ?_
  refine lv_iconst (pc := 8) (v := (-1)) hx hb dM_resolved_8 (by decide) ?_
  refine lv_icmp_ne (pc := 9) (tgt := 25) hx hb dM_resolved_9 rfl (fun h3 => ?_) (fun h3 => absurd h3 hs)
  refine lv_iload_n (pc := 25) hx hb dM_resolved_25 rfl (lv_at hl 0 rfl) ?_
  exact W.iret (pc := 26) hx hb hr (fun t ht hW => ⟨_, rfl, rfl, ht.trans hH⟩) (fun q h => nomatch h) dM_resolved_26
